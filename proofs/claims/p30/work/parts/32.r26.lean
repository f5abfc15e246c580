theorem ts_3_10 : Cond.selects "BoyBishopModel" ⟨"BoyBishopModel", "passWord", "()V"⟩ ⟨"BoyBishopModel", "passWord", "()V"⟩ ∈ gT := gT_in (List.mem_append_left _ (List.mem_map.mpr ⟨(⟨"BoyBishopModel", "passWord", "()V"⟩, 38), (List.mem_append_right _ (List.mem_append_right _ (List.mem_append_right _ (List.mem_append_left _ (List.mem_of_getElem? (i := 10) rfl))))), rfl⟩)) rfl
theorem ts_3_11 : Cond.selects "BoyBishopModel" ⟨"BoyBishopModel", "cellHere", "(III)Z"⟩ ⟨"BoyBishopModel", "cellHere", "(III)Z"⟩ ∈ gT := gT_in (List.mem_append_left _ (List.mem_map.mpr ⟨(⟨"BoyBishopModel", "cellHere", "(III)Z"⟩, 38), (List.mem_append_right _ (List.mem_append_right _ (List.mem_append_right _ (List.mem_append_left _ (List.mem_of_getElem? (i := 11) rfl))))), rfl⟩)) rfl
theorem ts_3_12 : Cond.selects "BoyBishopModel" ⟨"BoyBishopModel", "numberHere", "(II)Z"⟩ ⟨"BoyBishopModel", "numberHere", "(II)Z"⟩ ∈ gT := gT_in (List.mem_append_left _ (List.mem_map.mpr ⟨(⟨"BoyBishopModel", "numberHere", "(II)Z"⟩, 38), (List.mem_append_right _ (List.mem_append_right _ (List.mem_append_right _ (List.mem_append_left _ (List.mem_of_getElem? (i := 12) rfl))))), rfl⟩)) rfl
theorem ts_3_13 : Cond.selects "BoyBishopModel" ⟨"BoyBishopModel", "isDigit", "(I)Z"⟩ ⟨"BoyBishopModel", "isDigit", "(I)Z"⟩ ∈ gT := gT_in (List.mem_append_left _ (List.mem_map.mpr ⟨(⟨"BoyBishopModel", "isDigit", "(I)Z"⟩, 38), (List.mem_append_right _ (List.mem_append_right _ (List.mem_append_right _ (List.mem_append_left _ (List.mem_of_getElem? (i := 13) rfl))))), rfl⟩)) rfl
theorem ts_3_3 : Cond.selects "BoyBishopModel" ⟨"BoyBishopModel", "see", "()I"⟩ ⟨"BoyBishopModel", "see", "()I"⟩ ∈ gT := gT_in (List.mem_append_left _ (List.mem_map.mpr ⟨(⟨"BoyBishopModel", "see", "()I"⟩, 38), (List.mem_append_right _ (List.mem_append_right _ (List.mem_append_right _ (List.mem_append_left _ (List.mem_of_getElem? (i := 3) rfl))))), rfl⟩)) rfl
theorem ts_3_6 : Cond.selects "BoyBishopModel" ⟨"BoyBishopModel", "isLetter", "(I)Z"⟩ ⟨"BoyBishopModel", "isLetter", "(I)Z"⟩ ∈ gT := gT_in (List.mem_append_left _ (List.mem_map.mpr ⟨(⟨"BoyBishopModel", "isLetter", "(I)Z"⟩, 38), (List.mem_append_right _ (List.mem_append_right _ (List.mem_append_right _ (List.mem_append_left _ (List.mem_of_getElem? (i := 6) rfl))))), rfl⟩)) rfl
theorem ts_3_7 : Cond.selects "BoyBishopModel" ⟨"BoyBishopModel", "fails", "(II)Z"⟩ ⟨"BoyBishopModel", "fails", "(II)Z"⟩ ∈ gT := gT_in (List.mem_append_left _ (List.mem_map.mpr ⟨(⟨"BoyBishopModel", "fails", "(II)Z"⟩, 38), (List.mem_append_right _ (List.mem_append_right _ (List.mem_append_right _ (List.mem_append_left _ (List.mem_of_getElem? (i := 7) rfl))))), rfl⟩)) rfl
theorem ts_7_5 : Cond.selects "BoyBishopModel" ⟨"BoyBishopModel", "isWantedMore", "(III)Z"⟩ ⟨"BoyBishopModel", "isWantedMore", "(III)Z"⟩ ∈ gT := gT_in (List.mem_append_left _ (List.mem_map.mpr ⟨(⟨"BoyBishopModel", "isWantedMore", "(III)Z"⟩, 38), (List.mem_append_right _ (List.mem_append_right _ (List.mem_append_right _ (List.mem_append_right _ (List.mem_append_right _ (List.mem_append_right _ (List.mem_append_right _ (List.mem_append_left _ (List.mem_of_getElem? (i := 5) rfl))))))))), rfl⟩)) rfl
theorem tw_1132 : (Jvm.Cond.fieldLink "BoyBishopModel" (26 : Nat) "BoyBishopModel" "read" "[I") ∈ gT := gT_in (List.mem_append_right _ (List.mem_append_right _ (List.mem_append_right _ (List.mem_append_right _ (List.mem_append_right _ (List.mem_append_left _ (List.mem_of_getElem? (i := 172) rfl))))))) rfl
theorem tw_1135 : (Jvm.Cond.fieldLink "BoyBishopModel" (118 : Nat) "BoyBishopModel" "number" "I") ∈ gT := gT_in (List.mem_append_right _ (List.mem_append_right _ (List.mem_append_right _ (List.mem_append_right _ (List.mem_append_right _ (List.mem_append_left _ (List.mem_of_getElem? (i := 175) rfl))))))) rfl
theorem tw_1146 : (Jvm.Cond.fieldLink "BoyBishopModel" (42 : Nat) "BoyBishopModel" "force" "I") ∈ gT := gT_in (List.mem_append_right _ (List.mem_append_right _ (List.mem_append_right _ (List.mem_append_right _ (List.mem_append_right _ (List.mem_append_left _ (List.mem_of_getElem? (i := 186) rfl))))))) rfl
theorem tw_1147 : (Jvm.Cond.fieldLink "BoyBishopModel" (456 : Nat) "BoyBishopModel" "x" "I") ∈ gT := gT_in (List.mem_append_right _ (List.mem_append_right _ (List.mem_append_right _ (List.mem_append_right _ (List.mem_append_right _ (List.mem_append_left _ (List.mem_of_getElem? (i := 187) rfl))))))) rfl
theorem tw_1151 : (Jvm.Cond.fieldLink "BoyBishopModel" (283 : Nat) "BoyBishopModel" "undone" "I") ∈ gT := gT_in (List.mem_append_right _ (List.mem_append_right _ (List.mem_append_right _ (List.mem_append_right _ (List.mem_append_right _ (List.mem_append_left _ (List.mem_of_getElem? (i := 191) rfl))))))) rfl
theorem tw_1153 : (Jvm.Cond.fieldLink "BoyBishopModel" (55 : Nat) "BoyBishopModel" "wanted" "[J") ∈ gT := gT_in (List.mem_append_right _ (List.mem_append_right _ (List.mem_append_right _ (List.mem_append_right _ (List.mem_append_right _ (List.mem_append_left _ (List.mem_of_getElem? (i := 193) rfl))))))) rfl
theorem tw_1159 : (Jvm.Cond.fieldLink "BoyBishopModel" (71 : Nat) "BoyBishopModel" "images" "[I") ∈ gT := gT_in (List.mem_append_right _ (List.mem_append_right _ (List.mem_append_right _ (List.mem_append_right _ (List.mem_append_right _ (List.mem_append_left _ (List.mem_of_getElem? (i := 199) rfl))))))) rfl
theorem tw_1160 : (Jvm.Cond.fieldLink "BoyBishopModel" (74 : Nat) "BoyBishopModel" "imageForce" "[I") ∈ gT := gT_in (List.mem_append_right _ (List.mem_append_right _ (List.mem_append_right _ (List.mem_append_right _ (List.mem_append_right _ (List.mem_append_left _ (List.mem_of_getElem? (i := 200) rfl))))))) rfl
theorem tw_1161 : (Jvm.Cond.fieldLink "BoyBishopModel" (77 : Nat) "BoyBishopModel" "imageX" "[I") ∈ gT := gT_in (List.mem_append_right _ (List.mem_append_right _ (List.mem_append_right _ (List.mem_append_right _ (List.mem_append_right _ (List.mem_append_left _ (List.mem_of_getElem? (i := 201) rfl))))))) rfl
theorem tw_1162 : (Jvm.Cond.fieldLink "BoyBishopModel" (80 : Nat) "BoyBishopModel" "isMade" "[Z") ∈ gT := gT_in (List.mem_append_right _ (List.mem_append_right _ (List.mem_append_right _ (List.mem_append_right _ (List.mem_append_right _ (List.mem_append_left _ (List.mem_of_getElem? (i := 202) rfl))))))) rfl
theorem tw_1264 : (Jvm.Cond.methodLink "BoyBishopModel" (96 : Nat) ({ cls := "BoyBishopModel", name := "see", desc := "()I" } : Jvm.MethodName)) ∈ gT := gT_in (List.mem_append_right _ (List.mem_append_right _ (List.mem_append_right _ (List.mem_append_right _ (List.mem_append_right _ (List.mem_append_right _ (List.mem_append_left _ (List.mem_of_getElem? (i := 64) rfl)))))))) rfl
theorem tw_1266 : (Jvm.Cond.instanceMethod ({ cls := "BoyBishopModel", name := "see", desc := "()I" } : Jvm.MethodName)) ∈ gT := gT_in (List.mem_append_right _ (List.mem_append_right _ (List.mem_append_right _ (List.mem_append_right _ (List.mem_append_right _ (List.mem_append_right _ (List.mem_append_left _ (List.mem_of_getElem? (i := 66) rfl)))))))) rfl
theorem tw_1267 : (Jvm.Cond.code ({ cls := "BoyBishopModel", name := "see", desc := "()I" } : Jvm.MethodName) prog_14_method_10_code (1 : Nat) (Option.some Jvm.ClassFile.FieldType.int)) ∈ gT := gT_in (List.mem_append_right _ (List.mem_append_right _ (List.mem_append_right _ (List.mem_append_right _ (List.mem_append_right _ (List.mem_append_right _ (List.mem_append_left _ (List.mem_of_getElem? (i := 67) rfl)))))))) rfl
theorem tw_1277 : (Jvm.Cond.methodLink "BoyBishopModel" (100 : Nat) ({ cls := "BoyBishopModel", name := "isLetter", desc := "(I)Z" } : Jvm.MethodName)) ∈ gT := gT_in (List.mem_append_right _ (List.mem_append_right _ (List.mem_append_right _ (List.mem_append_right _ (List.mem_append_right _ (List.mem_append_right _ (List.mem_append_left _ (List.mem_of_getElem? (i := 77) rfl)))))))) rfl
theorem tw_1279 : (Jvm.Cond.instanceMethod ({ cls := "BoyBishopModel", name := "isLetter", desc := "(I)Z" } : Jvm.MethodName)) ∈ gT := gT_in (List.mem_append_right _ (List.mem_append_right _ (List.mem_append_right _ (List.mem_append_right _ (List.mem_append_right _ (List.mem_append_right _ (List.mem_append_left _ (List.mem_of_getElem? (i := 79) rfl)))))))) rfl
theorem tw_1280 : (Jvm.Cond.code ({ cls := "BoyBishopModel", name := "isLetter", desc := "(I)Z" } : Jvm.MethodName) prog_14_method_12_code (2 : Nat) (Option.some Jvm.ClassFile.FieldType.boolean)) ∈ gT := gT_in (List.mem_append_right _ (List.mem_append_right _ (List.mem_append_right _ (List.mem_append_right _ (List.mem_append_right _ (List.mem_append_right _ (List.mem_append_left _ (List.mem_of_getElem? (i := 80) rfl)))))))) rfl
theorem tw_1288 : (Jvm.Cond.methodLink "BoyBishopModel" (114 : Nat) ({ cls := "BoyBishopModel", name := "fails", desc := "(II)Z" } : Jvm.MethodName)) ∈ gT := gT_in (List.mem_append_right _ (List.mem_append_right _ (List.mem_append_right _ (List.mem_append_right _ (List.mem_append_right _ (List.mem_append_right _ (List.mem_append_left _ (List.mem_of_getElem? (i := 88) rfl)))))))) rfl
theorem tw_1290 : (Jvm.Cond.instanceMethod ({ cls := "BoyBishopModel", name := "fails", desc := "(II)Z" } : Jvm.MethodName)) ∈ gT := gT_in (List.mem_append_right _ (List.mem_append_right _ (List.mem_append_right _ (List.mem_append_right _ (List.mem_append_right _ (List.mem_append_right _ (List.mem_append_left _ (List.mem_of_getElem? (i := 90) rfl)))))))) rfl
theorem tw_1291 : (Jvm.Cond.code ({ cls := "BoyBishopModel", name := "fails", desc := "(II)Z" } : Jvm.MethodName) prog_14_method_9_code (3 : Nat) (Option.some Jvm.ClassFile.FieldType.boolean)) ∈ gT := gT_in (List.mem_append_right _ (List.mem_append_right _ (List.mem_append_right _ (List.mem_append_right _ (List.mem_append_right _ (List.mem_append_right _ (List.mem_append_left _ (List.mem_of_getElem? (i := 91) rfl)))))))) rfl
theorem tw_1300 : (Jvm.Cond.methodLink "BoyBishopModel" (108 : Nat) ({ cls := "BoyBishopModel", name := "passWord", desc := "()V" } : Jvm.MethodName)) ∈ gT := gT_in (List.mem_append_right _ (List.mem_append_right _ (List.mem_append_right _ (List.mem_append_right _ (List.mem_append_right _ (List.mem_append_right _ (List.mem_append_left _ (List.mem_of_getElem? (i := 100) rfl)))))))) rfl
theorem tw_1302 : (Jvm.Cond.instanceMethod ({ cls := "BoyBishopModel", name := "passWord", desc := "()V" } : Jvm.MethodName)) ∈ gT := gT_in (List.mem_append_right _ (List.mem_append_right _ (List.mem_append_right _ (List.mem_append_right _ (List.mem_append_right _ (List.mem_append_right _ (List.mem_append_left _ (List.mem_of_getElem? (i := 102) rfl)))))))) rfl
theorem tw_1303 : (Jvm.Cond.code ({ cls := "BoyBishopModel", name := "passWord", desc := "()V" } : Jvm.MethodName) prog_14_method_14_code (1 : Nat) (Option.none : Option Jvm.ClassFile.FieldType)) ∈ gT := gT_in (List.mem_append_right _ (List.mem_append_right _ (List.mem_append_right _ (List.mem_append_right _ (List.mem_append_right _ (List.mem_append_right _ (List.mem_append_left _ (List.mem_of_getElem? (i := 103) rfl)))))))) rfl
theorem tw_1304 : (Jvm.Cond.methodLink "BoyBishopModel" (219 : Nat) ({ cls := "BoyBishopModel", name := "cellHere", desc := "(III)Z" } : Jvm.MethodName)) ∈ gT := gT_in (List.mem_append_right _ (List.mem_append_right _ (List.mem_append_right _ (List.mem_append_right _ (List.mem_append_right _ (List.mem_append_right _ (List.mem_append_left _ (List.mem_of_getElem? (i := 104) rfl)))))))) rfl
theorem tw_1306 : (Jvm.Cond.instanceMethod ({ cls := "BoyBishopModel", name := "cellHere", desc := "(III)Z" } : Jvm.MethodName)) ∈ gT := gT_in (List.mem_append_right _ (List.mem_append_right _ (List.mem_append_right _ (List.mem_append_right _ (List.mem_append_right _ (List.mem_append_right _ (List.mem_append_left _ (List.mem_of_getElem? (i := 106) rfl)))))))) rfl
theorem tw_1307 : (Jvm.Cond.code ({ cls := "BoyBishopModel", name := "cellHere", desc := "(III)Z" } : Jvm.MethodName) prog_14_method_32_code (4 : Nat) (Option.some Jvm.ClassFile.FieldType.boolean)) ∈ gT := gT_in (List.mem_append_right _ (List.mem_append_right _ (List.mem_append_right _ (List.mem_append_right _ (List.mem_append_right _ (List.mem_append_right _ (List.mem_append_left _ (List.mem_of_getElem? (i := 107) rfl)))))))) rfl
theorem tw_1308 : (Jvm.Cond.methodLink "BoyBishopModel" (168 : Nat) ({ cls := "BoyBishopModel", name := "numberHere", desc := "(II)Z" } : Jvm.MethodName)) ∈ gT := gT_in (List.mem_append_right _ (List.mem_append_right _ (List.mem_append_right _ (List.mem_append_right _ (List.mem_append_right _ (List.mem_append_right _ (List.mem_append_left _ (List.mem_of_getElem? (i := 108) rfl)))))))) rfl
theorem tw_1310 : (Jvm.Cond.instanceMethod ({ cls := "BoyBishopModel", name := "numberHere", desc := "(II)Z" } : Jvm.MethodName)) ∈ gT := gT_in (List.mem_append_right _ (List.mem_append_right _ (List.mem_append_right _ (List.mem_append_right _ (List.mem_append_right _ (List.mem_append_right _ (List.mem_append_left _ (List.mem_of_getElem? (i := 110) rfl)))))))) rfl
theorem tw_1311 : (Jvm.Cond.code ({ cls := "BoyBishopModel", name := "numberHere", desc := "(II)Z" } : Jvm.MethodName) prog_14_method_16_code (5 : Nat) (Option.some Jvm.ClassFile.FieldType.boolean)) ∈ gT := gT_in (List.mem_append_right _ (List.mem_append_right _ (List.mem_append_right _ (List.mem_append_right _ (List.mem_append_right _ (List.mem_append_right _ (List.mem_append_left _ (List.mem_of_getElem? (i := 111) rfl)))))))) rfl
theorem tw_1312 : (Jvm.Cond.methodLink "BoyBishopModel" (111 : Nat) ({ cls := "BoyBishopModel", name := "isDigit", desc := "(I)Z" } : Jvm.MethodName)) ∈ gT := gT_in (List.mem_append_right _ (List.mem_append_right _ (List.mem_append_right _ (List.mem_append_right _ (List.mem_append_right _ (List.mem_append_right _ (List.mem_append_left _ (List.mem_of_getElem? (i := 112) rfl)))))))) rfl
theorem tw_1314 : (Jvm.Cond.instanceMethod ({ cls := "BoyBishopModel", name := "isDigit", desc := "(I)Z" } : Jvm.MethodName)) ∈ gT := gT_in (List.mem_append_right _ (List.mem_append_right _ (List.mem_append_right _ (List.mem_append_right _ (List.mem_append_right _ (List.mem_append_right _ (List.mem_append_left _ (List.mem_of_getElem? (i := 114) rfl)))))))) rfl
theorem tw_1315 : (Jvm.Cond.code ({ cls := "BoyBishopModel", name := "isDigit", desc := "(I)Z" } : Jvm.MethodName) prog_14_method_11_code (2 : Nat) (Option.some Jvm.ClassFile.FieldType.boolean)) ∈ gT := gT_in (List.mem_append_right _ (List.mem_append_right _ (List.mem_append_right _ (List.mem_append_right _ (List.mem_append_right _ (List.mem_append_right _ (List.mem_append_left _ (List.mem_of_getElem? (i := 115) rfl)))))))) rfl
theorem tw_1316 : (Jvm.Cond.methodLink "BoyBishopModel" (121 : Nat) ({ cls := "BoyBishopModel", name := "in", desc := "(JJJ)Z" } : Jvm.MethodName)) ∈ gT := gT_in (List.mem_append_right _ (List.mem_append_right _ (List.mem_append_right _ (List.mem_append_right _ (List.mem_append_right _ (List.mem_append_right _ (List.mem_append_left _ (List.mem_of_getElem? (i := 116) rfl)))))))) rfl
theorem tw_1317 : (Jvm.Cond.static ({ cls := "BoyBishopModel", name := "in", desc := "(JJJ)Z" } : Jvm.MethodName)) ∈ gT := gT_in (List.mem_append_right _ (List.mem_append_right _ (List.mem_append_right _ (List.mem_append_right _ (List.mem_append_right _ (List.mem_append_right _ (List.mem_append_left _ (List.mem_of_getElem? (i := 117) rfl)))))))) rfl
theorem tw_1318 : (Jvm.Cond.code ({ cls := "BoyBishopModel", name := "in", desc := "(JJJ)Z" } : Jvm.MethodName) prog_14_method_2_code (6 : Nat) (Option.some Jvm.ClassFile.FieldType.boolean)) ∈ gT := gT_in (List.mem_append_right _ (List.mem_append_right _ (List.mem_append_right _ (List.mem_append_right _ (List.mem_append_right _ (List.mem_append_right _ (List.mem_append_left _ (List.mem_of_getElem? (i := 118) rfl)))))))) rfl
theorem tw_1452 : (Jvm.Cond.constantLong "BoyBishopModel" (323 : Nat) (3 : Int64)) ∈ gT := gT_in (List.mem_append_right _ (List.mem_append_right _ (List.mem_append_right _ (List.mem_append_right _ (List.mem_append_right _ (List.mem_append_right _ (List.mem_append_right _ (List.mem_append_left _ (List.mem_of_getElem? (i := 12) rfl))))))))) rfl
theorem tw_1626 : (Jvm.Cond.methodLink "BoyBishopModel" (400 : Nat) ({ cls := "BoyBishopModel", name := "isWantedMore", desc := "(III)Z" } : Jvm.MethodName)) ∈ gT := gT_in (List.mem_append_right _ (List.mem_append_right _ (List.mem_append_right _ (List.mem_append_right _ (List.mem_append_right _ (List.mem_append_right _ (List.mem_append_right _ (List.mem_append_left _ (List.mem_of_getElem? (i := 186) rfl))))))))) rfl
theorem tw_1628 : (Jvm.Cond.instanceMethod ({ cls := "BoyBishopModel", name := "isWantedMore", desc := "(III)Z" } : Jvm.MethodName)) ∈ gT := gT_in (List.mem_append_right _ (List.mem_append_right _ (List.mem_append_right _ (List.mem_append_right _ (List.mem_append_right _ (List.mem_append_right _ (List.mem_append_right _ (List.mem_append_left _ (List.mem_of_getElem? (i := 188) rfl))))))))) rfl
theorem tw_1629 : (Jvm.Cond.code ({ cls := "BoyBishopModel", name := "isWantedMore", desc := "(III)Z" } : Jvm.MethodName) prog_14_method_92_code (4 : Nat) (Option.some Jvm.ClassFile.FieldType.boolean)) ∈ gT := gT_in (List.mem_append_right _ (List.mem_append_right _ (List.mem_append_right _ (List.mem_append_right _ (List.mem_append_right _ (List.mem_append_right _ (List.mem_append_right _ (List.mem_append_left _ (List.mem_of_getElem? (i := 189) rfl))))))))) rfl
theorem dX12_areLikesHere_0 : decode cX12_areLikesHere 0 = .ok (.aload_n 0, 1) := by decide +kernel
theorem dX12_areLikesHere_1 : decode cX12_areLikesHere 1 = .ok (.invokevirtual 108, 3) := by decide +kernel
theorem dX12_areLikesHere_4 : decode cX12_areLikesHere 4 = .ok (.aload_n 0, 1) := by decide +kernel
theorem dX12_areLikesHere_5 : decode cX12_areLikesHere 5 = .ok (.iconst 0, 1) := by decide +kernel
theorem dX12_areLikesHere_6 : decode cX12_areLikesHere 6 = .ok (.aload_n 0, 1) := by decide +kernel
theorem dX12_areLikesHere_7 : decode cX12_areLikesHere 7 = .ok (.getfield 26, 3) := by decide +kernel
theorem dX12_areLikesHere_10 : decode cX12_areLikesHere 10 = .ok (.iconst 3, 1) := by decide +kernel
theorem dX12_areLikesHere_11 : decode cX12_areLikesHere 11 = .ok (.iaload, 1) := by decide +kernel
theorem dX12_areLikesHere_12 : decode cX12_areLikesHere 12 = .ok (.iconst 1, 1) := by decide +kernel
theorem dX12_areLikesHere_13 : decode cX12_areLikesHere 13 = .ok (.isub, 1) := by decide +kernel
theorem dX12_areLikesHere_14 : decode cX12_areLikesHere 14 = .ok (.invokevirtual 168, 3) := by decide +kernel
theorem dX12_areLikesHere_17 : decode cX12_areLikesHere 17 = .ok (.ifCond .ne 5, 3) := by decide +kernel
theorem dX12_areLikesHere_20 : decode cX12_areLikesHere 20 = .ok (.iconst 0, 1) := by decide +kernel
theorem dX12_areLikesHere_21 : decode cX12_areLikesHere 21 = .ok (.ireturn, 1) := by decide +kernel
theorem dX12_areLikesHere_22 : decode cX12_areLikesHere 22 = .ok (.bipush 6, 2) := by decide +kernel
theorem dX12_areLikesHere_24 : decode cX12_areLikesHere 24 = .ok (.aload_n 0, 1) := by decide +kernel
theorem dX12_areLikesHere_25 : decode cX12_areLikesHere 25 = .ok (.getfield 118, 3) := by decide +kernel
theorem dX12_areLikesHere_28 : decode cX12_areLikesHere 28 = .ok (.imul, 1) := by decide +kernel
theorem dX12_areLikesHere_29 : decode cX12_areLikesHere 29 = .ok (.istore_n 1, 1) := by decide +kernel
theorem dX12_areLikesHere_30 : decode cX12_areLikesHere 30 = .ok (.aload_n 0, 1) := by decide +kernel
theorem dX12_areLikesHere_31 : decode cX12_areLikesHere 31 = .ok (.iconst 0, 1) := by decide +kernel
theorem dX12_areLikesHere_32 : decode cX12_areLikesHere 32 = .ok (.aload_n 0, 1) := by decide +kernel
theorem dX12_areLikesHere_33 : decode cX12_areLikesHere 33 = .ok (.getfield 26, 3) := by decide +kernel
theorem dX12_areLikesHere_36 : decode cX12_areLikesHere 36 = .ok (.iconst 3, 1) := by decide +kernel
theorem dX12_areLikesHere_37 : decode cX12_areLikesHere 37 = .ok (.iaload, 1) := by decide +kernel
theorem dX12_areLikesHere_38 : decode cX12_areLikesHere 38 = .ok (.iconst 1, 1) := by decide +kernel
theorem dX12_areLikesHere_39 : decode cX12_areLikesHere 39 = .ok (.isub, 1) := by decide +kernel
theorem dX12_areLikesHere_40 : decode cX12_areLikesHere 40 = .ok (.invokevirtual 168, 3) := by decide +kernel
theorem dX12_areLikesHere_43 : decode cX12_areLikesHere 43 = .ok (.ifCond .ne 5, 3) := by decide +kernel
theorem dX12_areLikesHere_46 : decode cX12_areLikesHere 46 = .ok (.iconst 0, 1) := by decide +kernel
theorem dX12_areLikesHere_47 : decode cX12_areLikesHere 47 = .ok (.ireturn, 1) := by decide +kernel
theorem dX12_areLikesHere_48 : decode cX12_areLikesHere 48 = .ok (.aload_n 0, 1) := by decide +kernel
theorem dX12_areLikesHere_49 : decode cX12_areLikesHere 49 = .ok (.bipush 70, 2) := by decide +kernel
theorem dX12_areLikesHere_51 : decode cX12_areLikesHere 51 = .ok (.iload_n 1, 1) := by decide +kernel
theorem dX12_areLikesHere_52 : decode cX12_areLikesHere 52 = .ok (.iadd, 1) := by decide +kernel
theorem dX12_areLikesHere_53 : decode cX12_areLikesHere 53 = .ok (.aload_n 0, 1) := by decide +kernel
theorem dX12_areLikesHere_54 : decode cX12_areLikesHere 54 = .ok (.getfield 118, 3) := by decide +kernel
theorem dX12_areLikesHere_57 : decode cX12_areLikesHere 57 = .ok (.iadd, 1) := by decide +kernel
theorem dX12_areLikesHere_58 : decode cX12_areLikesHere 58 = .ok (.iconst 0, 1) := by decide +kernel
theorem dX12_areLikesHere_59 : decode cX12_areLikesHere 59 = .ok (.bipush 20, 2) := by decide +kernel
theorem dX12_areLikesHere_61 : decode cX12_areLikesHere 61 = .ok (.invokevirtual 219, 3) := by decide +kernel
theorem dX12_areLikesHere_64 : decode cX12_areLikesHere 64 = .ok (.ireturn, 1) := by decide +kernel
theorem dX12_back_0 : decode cX12_back 0 = .ok (.iload_n 1, 1) := by decide +kernel
theorem dX12_back_1 : decode cX12_back 1 = .ok (.i2l, 1) := by decide +kernel
theorem dX12_back_2 : decode cX12_back 2 = .ok (.lconst 0, 1) := by decide +kernel
theorem dX12_back_3 : decode cX12_back 3 = .ok (.ldc2_w 323, 3) := by decide +kernel
theorem dX12_back_6 : decode cX12_back 6 = .ok (.invokestatic 121, 3) := by decide +kernel
theorem dX12_back_9 : decode cX12_back 9 = .ok (.ifCond .eq 12, 3) := by decide +kernel
theorem dX12_back_12 : decode cX12_back 12 = .ok (.aload_n 0, 1) := by decide +kernel
theorem dX12_back_13 : decode cX12_back 13 = .ok (.getfield 80, 3) := by decide +kernel
theorem dX12_back_16 : decode cX12_back 16 = .ok (.iload_n 1, 1) := by decide +kernel
theorem dX12_back_17 : decode cX12_back 17 = .ok (.baload, 1) := by decide +kernel
theorem dX12_back_18 : decode cX12_back 18 = .ok (.ifCond .ne 5, 3) := by decide +kernel
theorem dX12_back_21 : decode cX12_back 21 = .ok (.iconst (-1), 1) := by decide +kernel
theorem dX12_back_22 : decode cX12_back 22 = .ok (.ireturn, 1) := by decide +kernel
theorem dX12_back_23 : decode cX12_back 23 = .ok (.aload_n 0, 1) := by decide +kernel
theorem dX12_back_24 : decode cX12_back 24 = .ok (.aload_n 0, 1) := by decide +kernel
theorem dX12_back_25 : decode cX12_back 25 = .ok (.getfield 74, 3) := by decide +kernel
theorem dX12_back_28 : decode cX12_back 28 = .ok (.iload_n 1, 1) := by decide +kernel
theorem dX12_back_29 : decode cX12_back 29 = .ok (.iaload, 1) := by decide +kernel
theorem dX12_back_30 : decode cX12_back 30 = .ok (.putfield 42, 3) := by decide +kernel
theorem dX12_back_33 : decode cX12_back 33 = .ok (.aload_n 0, 1) := by decide +kernel
theorem dX12_back_34 : decode cX12_back 34 = .ok (.aload_n 0, 1) := by decide +kernel
theorem dX12_back_35 : decode cX12_back 35 = .ok (.getfield 77, 3) := by decide +kernel
theorem dX12_back_38 : decode cX12_back 38 = .ok (.iload_n 1, 1) := by decide +kernel
theorem dX12_back_39 : decode cX12_back 39 = .ok (.iaload, 1) := by decide +kernel
theorem dX12_back_40 : decode cX12_back 40 = .ok (.putfield 456, 3) := by decide +kernel
theorem dX12_back_43 : decode cX12_back 43 = .ok (.aload_n 0, 1) := by decide +kernel
theorem dX12_back_44 : decode cX12_back 44 = .ok (.iconst 0, 1) := by decide +kernel
theorem dX12_back_45 : decode cX12_back 45 = .ok (.putfield 283, 3) := by decide +kernel
theorem dX12_back_48 : decode cX12_back 48 = .ok (.iconst 0, 1) := by decide +kernel
theorem dX12_back_49 : decode cX12_back 49 = .ok (.istore_n 2, 1) := by decide +kernel
theorem dX12_back_50 : decode cX12_back 50 = .ok (.iload_n 2, 1) := by decide +kernel
theorem dX12_back_51 : decode cX12_back 51 = .ok (.sipush 306, 3) := by decide +kernel
theorem dX12_back_54 : decode cX12_back 54 = .ok (.if_icmp .ge 27, 3) := by decide +kernel
theorem dX12_back_57 : decode cX12_back 57 = .ok (.aload_n 0, 1) := by decide +kernel
theorem dX12_back_58 : decode cX12_back 58 = .ok (.getfield 39, 3) := by decide +kernel
theorem dX12_back_61 : decode cX12_back 61 = .ok (.iload_n 2, 1) := by decide +kernel
theorem dX12_back_62 : decode cX12_back 62 = .ok (.aload_n 0, 1) := by decide +kernel
theorem dX12_back_63 : decode cX12_back 63 = .ok (.getfield 71, 3) := by decide +kernel
theorem dX12_back_66 : decode cX12_back 66 = .ok (.sipush 306, 3) := by decide +kernel
theorem dX12_back_69 : decode cX12_back 69 = .ok (.iload_n 1, 1) := by decide +kernel
theorem dX12_back_70 : decode cX12_back 70 = .ok (.imul, 1) := by decide +kernel
theorem dX12_back_71 : decode cX12_back 71 = .ok (.iload_n 2, 1) := by decide +kernel
theorem dX12_back_72 : decode cX12_back 72 = .ok (.iadd, 1) := by decide +kernel
theorem dX12_back_73 : decode cX12_back 73 = .ok (.iaload, 1) := by decide +kernel
theorem dX12_back_74 : decode cX12_back 74 = .ok (.iastore, 1) := by decide +kernel
theorem dX12_back_75 : decode cX12_back 75 = .ok (.iinc 2 1, 3) := by decide +kernel
theorem dX12_back_78 : decode cX12_back 78 = .ok (.goto (-28), 3) := by decide +kernel
theorem dX12_back_81 : decode cX12_back 81 = .ok (.aload_n 0, 1) := by decide +kernel
theorem dX12_back_82 : decode cX12_back 82 = .ok (.getfield 39, 3) := by decide +kernel
theorem dX12_back_85 : decode cX12_back 85 = .ok (.bipush 10, 2) := by decide +kernel
theorem dX12_back_87 : decode cX12_back 87 = .ok (.iaload, 1) := by decide +kernel
theorem dX12_back_88 : decode cX12_back 88 = .ok (.ireturn, 1) := by decide +kernel
theorem dX12_beatsEach_0 : decode cX12_beatsEach 0 = .ok (.iconst 0, 1) := by decide +kernel
theorem dX12_beatsEach_1 : decode cX12_beatsEach 1 = .ok (.istore_n 2, 1) := by decide +kernel
theorem dX12_beatsEach_2 : decode cX12_beatsEach 2 = .ok (.iload_n 2, 1) := by decide +kernel
theorem dX12_beatsEach_3 : decode cX12_beatsEach 3 = .ok (.aload_n 0, 1) := by decide +kernel
theorem dX12_beatsEach_4 : decode cX12_beatsEach 4 = .ok (.getfield 39, 3) := by decide +kernel
theorem dX12_beatsEach_7 : decode cX12_beatsEach 7 = .ok (.iconst 3, 1) := by decide +kernel
theorem dX12_beatsEach_8 : decode cX12_beatsEach 8 = .ok (.iaload, 1) := by decide +kernel
theorem dX12_beatsEach_9 : decode cX12_beatsEach 9 = .ok (.if_icmp .ge 87, 3) := by decide +kernel
theorem dX12_beatsEach_12 : decode cX12_beatsEach 12 = .ok (.iload_n 2, 1) := by decide +kernel
theorem dX12_beatsEach_13 : decode cX12_beatsEach 13 = .ok (.iload_n 1, 1) := by decide +kernel
theorem dX12_beatsEach_14 : decode cX12_beatsEach 14 = .ok (.if_icmp .eq 76, 3) := by decide +kernel
theorem dX12_beatsEach_17 : decode cX12_beatsEach 17 = .ok (.aload_n 0, 1) := by decide +kernel
theorem dX12_beatsEach_18 : decode cX12_beatsEach 18 = .ok (.iload_n 2, 1) := by decide +kernel
theorem dX12_beatsEach_19 : decode cX12_beatsEach 19 = .ok (.invokevirtual 314, 3) := by decide +kernel
theorem dX12_beatsEach_22 : decode cX12_beatsEach 22 = .ok (.ifCond .ne 6, 3) := by decide +kernel
theorem dX12_beatsEach_25 : decode cX12_beatsEach 25 = .ok (.goto 65, 3) := by decide +kernel
theorem dX12_beatsEach_28 : decode cX12_beatsEach 28 = .ok (.iconst 0, 1) := by decide +kernel
theorem dX12_beatsEach_29 : decode cX12_beatsEach 29 = .ok (.istore_n 3, 1) := by decide +kernel
theorem dX12_beatsEach_30 : decode cX12_beatsEach 30 = .ok (.iconst 0, 1) := by decide +kernel
theorem dX12_beatsEach_31 : decode cX12_beatsEach 31 = .ok (.istore 4, 2) := by decide +kernel
theorem dX12_beatsEach_33 : decode cX12_beatsEach 33 = .ok (.iload 4, 2) := by decide +kernel
theorem dX12_beatsEach_35 : decode cX12_beatsEach 35 = .ok (.aload_n 0, 1) := by decide +kernel
theorem dX12_beatsEach_36 : decode cX12_beatsEach 36 = .ok (.getfield 39, 3) := by decide +kernel
theorem dX12_beatsEach_39 : decode cX12_beatsEach 39 = .ok (.iconst 3, 1) := by decide +kernel
theorem dX12_beatsEach_40 : decode cX12_beatsEach 40 = .ok (.iaload, 1) := by decide +kernel
theorem dX12_beatsEach_41 : decode cX12_beatsEach 41 = .ok (.if_icmp .ge 43, 3) := by decide +kernel
theorem dX12_beatsEach_44 : decode cX12_beatsEach 44 = .ok (.iload_n 3, 1) := by decide +kernel
theorem dX12_beatsEach_45 : decode cX12_beatsEach 45 = .ok (.aload_n 0, 1) := by decide +kernel
theorem dX12_beatsEach_46 : decode cX12_beatsEach 46 = .ok (.iload 4, 2) := by decide +kernel
theorem dX12_beatsEach_48 : decode cX12_beatsEach 48 = .ok (.iload_n 1, 1) := by decide +kernel
theorem dX12_beatsEach_49 : decode cX12_beatsEach 49 = .ok (.iload_n 2, 1) := by decide +kernel
theorem dX12_beatsEach_50 : decode cX12_beatsEach 50 = .ok (.invokevirtual 400, 3) := by decide +kernel
theorem dX12_beatsEach_53 : decode cX12_beatsEach 53 = .ok (.ifCond .eq 7, 3) := by decide +kernel
theorem dX12_beatsEach_56 : decode cX12_beatsEach 56 = .ok (.iconst 1, 1) := by decide +kernel
theorem dX12_beatsEach_57 : decode cX12_beatsEach 57 = .ok (.goto 19, 3) := by decide +kernel
theorem dX12_beatsEach_60 : decode cX12_beatsEach 60 = .ok (.aload_n 0, 1) := by decide +kernel
theorem dX12_beatsEach_61 : decode cX12_beatsEach 61 = .ok (.iload 4, 2) := by decide +kernel
theorem dX12_beatsEach_63 : decode cX12_beatsEach 63 = .ok (.iload_n 2, 1) := by decide +kernel
theorem dX12_beatsEach_64 : decode cX12_beatsEach 64 = .ok (.iload_n 1, 1) := by decide +kernel
theorem dX12_beatsEach_65 : decode cX12_beatsEach 65 = .ok (.invokevirtual 400, 3) := by decide +kernel
theorem dX12_beatsEach_68 : decode cX12_beatsEach 68 = .ok (.ifCond .eq 7, 3) := by decide +kernel
theorem dX12_beatsEach_71 : decode cX12_beatsEach 71 = .ok (.iconst (-1), 1) := by decide +kernel
theorem dX12_beatsEach_72 : decode cX12_beatsEach 72 = .ok (.goto 4, 3) := by decide +kernel
theorem dX12_beatsEach_75 : decode cX12_beatsEach 75 = .ok (.iconst 0, 1) := by decide +kernel
theorem dX12_beatsEach_76 : decode cX12_beatsEach 76 = .ok (.iadd, 1) := by decide +kernel
theorem dX12_beatsEach_77 : decode cX12_beatsEach 77 = .ok (.istore_n 3, 1) := by decide +kernel
theorem dX12_beatsEach_78 : decode cX12_beatsEach 78 = .ok (.iinc 4 1, 3) := by decide +kernel
theorem dX12_beatsEach_81 : decode cX12_beatsEach 81 = .ok (.goto (-48), 3) := by decide +kernel
theorem dX12_beatsEach_84 : decode cX12_beatsEach 84 = .ok (.iload_n 3, 1) := by decide +kernel
theorem dX12_beatsEach_85 : decode cX12_beatsEach 85 = .ok (.ifCond .gt 5, 3) := by decide +kernel
theorem dX12_beatsEach_88 : decode cX12_beatsEach 88 = .ok (.iconst 0, 1) := by decide +kernel
theorem dX12_beatsEach_89 : decode cX12_beatsEach 89 = .ok (.ireturn, 1) := by decide +kernel
theorem dX12_beatsEach_90 : decode cX12_beatsEach 90 = .ok (.iinc 2 1, 3) := by decide +kernel
theorem dX12_beatsEach_93 : decode cX12_beatsEach 93 = .ok (.goto (-91), 3) := by decide +kernel
theorem dX12_beatsEach_96 : decode cX12_beatsEach 96 = .ok (.iconst 1, 1) := by decide +kernel
theorem dX12_beatsEach_97 : decode cX12_beatsEach 97 = .ok (.ireturn, 1) := by decide +kernel
theorem dX12_begins_0 : decode cX12_begins 0 = .ok (.aload_n 0, 1) := by decide +kernel
theorem dX12_begins_1 : decode cX12_begins 1 = .ok (.getfield 39, 3) := by decide +kernel
theorem dX12_begins_4 : decode cX12_begins 4 = .ok (.bipush 10, 2) := by decide +kernel
theorem dX12_begins_6 : decode cX12_begins 6 = .ok (.iconst 0, 1) := by decide +kernel
theorem dX12_begins_7 : decode cX12_begins 7 = .ok (.iastore, 1) := by decide +kernel
theorem dX12_begins_8 : decode cX12_begins 8 = .ok (.aload_n 0, 1) := by decide +kernel
theorem dX12_begins_9 : decode cX12_begins 9 = .ok (.getfield 39, 3) := by decide +kernel
theorem dX12_begins_12 : decode cX12_begins 12 = .ok (.bipush 11, 2) := by decide +kernel
theorem dX12_begins_14 : decode cX12_begins 14 = .ok (.iconst (-1), 1) := by decide +kernel
theorem dX12_begins_15 : decode cX12_begins 15 = .ok (.iastore, 1) := by decide +kernel
theorem dX12_begins_16 : decode cX12_begins 16 = .ok (.aload_n 0, 1) := by decide +kernel
theorem dX12_begins_17 : decode cX12_begins 17 = .ok (.getfield 39, 3) := by decide +kernel
theorem dX12_begins_20 : decode cX12_begins 20 = .ok (.bipush 12, 2) := by decide +kernel
theorem dX12_begins_22 : decode cX12_begins 22 = .ok (.iconst (-1), 1) := by decide +kernel
theorem dX12_begins_23 : decode cX12_begins 23 = .ok (.iastore, 1) := by decide +kernel
theorem dX12_begins_24 : decode cX12_begins 24 = .ok (.aload_n 0, 1) := by decide +kernel
theorem dX12_begins_25 : decode cX12_begins 25 = .ok (.getfield 39, 3) := by decide +kernel
theorem dX12_begins_28 : decode cX12_begins 28 = .ok (.bipush 13, 2) := by decide +kernel
theorem dX12_begins_30 : decode cX12_begins 30 = .ok (.iconst 0, 1) := by decide +kernel
theorem dX12_begins_31 : decode cX12_begins 31 = .ok (.iastore, 1) := by decide +kernel
theorem dX12_begins_32 : decode cX12_begins 32 = .ok (.aload_n 0, 1) := by decide +kernel
theorem dX12_begins_33 : decode cX12_begins 33 = .ok (.getfield 39, 3) := by decide +kernel
theorem dX12_begins_36 : decode cX12_begins 36 = .ok (.bipush 14, 2) := by decide +kernel
theorem dX12_begins_38 : decode cX12_begins 38 = .ok (.iconst 0, 1) := by decide +kernel
theorem dX12_begins_39 : decode cX12_begins 39 = .ok (.iastore, 1) := by decide +kernel
theorem dX12_begins_40 : decode cX12_begins 40 = .ok (.aload_n 0, 1) := by decide +kernel
theorem dX12_begins_41 : decode cX12_begins 41 = .ok (.getfield 39, 3) := by decide +kernel
theorem dX12_begins_44 : decode cX12_begins 44 = .ok (.bipush 15, 2) := by decide +kernel
theorem dX12_begins_46 : decode cX12_begins 46 = .ok (.iconst 0, 1) := by decide +kernel
theorem dX12_begins_47 : decode cX12_begins 47 = .ok (.iastore, 1) := by decide +kernel
theorem dX12_begins_48 : decode cX12_begins 48 = .ok (.iconst 0, 1) := by decide +kernel
theorem dX12_begins_49 : decode cX12_begins 49 = .ok (.istore_n 1, 1) := by decide +kernel
theorem dX12_begins_50 : decode cX12_begins 50 = .ok (.iload_n 1, 1) := by decide +kernel
theorem dX12_begins_51 : decode cX12_begins 51 = .ok (.bipush 6, 2) := by decide +kernel
theorem dX12_begins_53 : decode cX12_begins 53 = .ok (.if_icmp .ge 71, 3) := by decide +kernel
theorem dX12_begins_56 : decode cX12_begins 56 = .ok (.aload_n 0, 1) := by decide +kernel
theorem dX12_begins_57 : decode cX12_begins 57 = .ok (.getfield 39, 3) := by decide +kernel
theorem dX12_begins_60 : decode cX12_begins 60 = .ok (.bipush 16, 2) := by decide +kernel
theorem dX12_begins_62 : decode cX12_begins 62 = .ok (.iconst 3, 1) := by decide +kernel
theorem dX12_begins_63 : decode cX12_begins 63 = .ok (.iload_n 1, 1) := by decide +kernel
theorem dX12_begins_64 : decode cX12_begins 64 = .ok (.imul, 1) := by decide +kernel
theorem dX12_begins_65 : decode cX12_begins 65 = .ok (.iadd, 1) := by decide +kernel
theorem dX12_begins_66 : decode cX12_begins 66 = .ok (.aload_n 0, 1) := by decide +kernel
theorem dX12_begins_67 : decode cX12_begins 67 = .ok (.getfield 39, 3) := by decide +kernel
theorem dX12_begins_70 : decode cX12_begins 70 = .ok (.bipush 58, 2) := by decide +kernel
theorem dX12_begins_72 : decode cX12_begins 72 = .ok (.iconst 2, 1) := by decide +kernel
theorem dX12_begins_73 : decode cX12_begins 73 = .ok (.iload_n 1, 1) := by decide +kernel
theorem dX12_begins_74 : decode cX12_begins 74 = .ok (.imul, 1) := by decide +kernel
theorem dX12_begins_75 : decode cX12_begins 75 = .ok (.iadd, 1) := by decide +kernel
theorem dX12_begins_76 : decode cX12_begins 76 = .ok (.iaload, 1) := by decide +kernel
theorem dX12_begins_77 : decode cX12_begins 77 = .ok (.iastore, 1) := by decide +kernel
theorem dX12_begins_78 : decode cX12_begins 78 = .ok (.aload_n 0, 1) := by decide +kernel
theorem dX12_begins_79 : decode cX12_begins 79 = .ok (.getfield 39, 3) := by decide +kernel
theorem dX12_begins_82 : decode cX12_begins 82 = .ok (.bipush 16, 2) := by decide +kernel
theorem dX12_begins_84 : decode cX12_begins 84 = .ok (.iconst 3, 1) := by decide +kernel
theorem dX12_begins_85 : decode cX12_begins 85 = .ok (.iload_n 1, 1) := by decide +kernel
theorem dX12_begins_86 : decode cX12_begins 86 = .ok (.imul, 1) := by decide +kernel
theorem dX12_begins_87 : decode cX12_begins 87 = .ok (.iadd, 1) := by decide +kernel
theorem dX12_begins_88 : decode cX12_begins 88 = .ok (.iconst 1, 1) := by decide +kernel
theorem dX12_begins_89 : decode cX12_begins 89 = .ok (.iadd, 1) := by decide +kernel
theorem dX12_begins_90 : decode cX12_begins 90 = .ok (.aload_n 0, 1) := by decide +kernel
theorem dX12_begins_91 : decode cX12_begins 91 = .ok (.getfield 39, 3) := by decide +kernel
theorem dX12_begins_94 : decode cX12_begins 94 = .ok (.bipush 58, 2) := by decide +kernel
theorem dX12_begins_96 : decode cX12_begins 96 = .ok (.iconst 2, 1) := by decide +kernel
theorem dX12_begins_97 : decode cX12_begins 97 = .ok (.iload_n 1, 1) := by decide +kernel
theorem dX12_begins_98 : decode cX12_begins 98 = .ok (.imul, 1) := by decide +kernel
theorem dX12_begins_99 : decode cX12_begins 99 = .ok (.iadd, 1) := by decide +kernel
theorem dX12_begins_100 : decode cX12_begins 100 = .ok (.iconst 1, 1) := by decide +kernel
theorem dX12_begins_101 : decode cX12_begins 101 = .ok (.iadd, 1) := by decide +kernel
theorem dX12_begins_102 : decode cX12_begins 102 = .ok (.iaload, 1) := by decide +kernel
theorem dX12_begins_103 : decode cX12_begins 103 = .ok (.iastore, 1) := by decide +kernel
theorem dX12_begins_104 : decode cX12_begins 104 = .ok (.aload_n 0, 1) := by decide +kernel
theorem dX12_begins_105 : decode cX12_begins 105 = .ok (.getfield 39, 3) := by decide +kernel
theorem dX12_begins_108 : decode cX12_begins 108 = .ok (.bipush 16, 2) := by decide +kernel
theorem dX12_begins_110 : decode cX12_begins 110 = .ok (.iconst 3, 1) := by decide +kernel
theorem dX12_begins_111 : decode cX12_begins 111 = .ok (.iload_n 1, 1) := by decide +kernel
theorem dX12_begins_112 : decode cX12_begins 112 = .ok (.imul, 1) := by decide +kernel
theorem dX12_begins_113 : decode cX12_begins 113 = .ok (.iadd, 1) := by decide +kernel
theorem dX12_begins_114 : decode cX12_begins 114 = .ok (.iconst 2, 1) := by decide +kernel
theorem dX12_begins_115 : decode cX12_begins 115 = .ok (.iadd, 1) := by decide +kernel
theorem dX12_begins_116 : decode cX12_begins 116 = .ok (.iconst 0, 1) := by decide +kernel
theorem dX12_begins_117 : decode cX12_begins 117 = .ok (.iastore, 1) := by decide +kernel
theorem dX12_begins_118 : decode cX12_begins 118 = .ok (.iinc 1 1, 3) := by decide +kernel
theorem dX12_begins_121 : decode cX12_begins 121 = .ok (.goto (-71), 3) := by decide +kernel
theorem dX12_begins_124 : decode cX12_begins 124 = .ok (.iconst 0, 1) := by decide +kernel
theorem dX12_begins_125 : decode cX12_begins 125 = .ok (.istore_n 1, 1) := by decide +kernel
theorem dX12_begins_126 : decode cX12_begins 126 = .ok (.iload_n 1, 1) := by decide +kernel
theorem dX12_begins_127 : decode cX12_begins 127 = .ok (.bipush 6, 2) := by decide +kernel
theorem dX12_begins_129 : decode cX12_begins 129 = .ok (.if_icmp .ge 29, 3) := by decide +kernel
theorem dX12_begins_132 : decode cX12_begins 132 = .ok (.aload_n 0, 1) := by decide +kernel
theorem dX12_begins_133 : decode cX12_begins 133 = .ok (.getfield 39, 3) := by decide +kernel
theorem dX12_begins_136 : decode cX12_begins 136 = .ok (.bipush 34, 2) := by decide +kernel
theorem dX12_begins_138 : decode cX12_begins 138 = .ok (.iload_n 1, 1) := by decide +kernel
theorem dX12_begins_139 : decode cX12_begins 139 = .ok (.iadd, 1) := by decide +kernel
theorem dX12_begins_140 : decode cX12_begins 140 = .ok (.aload_n 0, 1) := by decide +kernel
theorem dX12_begins_141 : decode cX12_begins 141 = .ok (.getfield 39, 3) := by decide +kernel
theorem dX12_begins_144 : decode cX12_begins 144 = .ok (.bipush 114, 2) := by decide +kernel
theorem dX12_begins_146 : decode cX12_begins 146 = .ok (.iconst 2, 1) := by decide +kernel
theorem dX12_begins_147 : decode cX12_begins 147 = .ok (.iload_n 1, 1) := by decide +kernel
theorem dX12_begins_148 : decode cX12_begins 148 = .ok (.imul, 1) := by decide +kernel
theorem dX12_begins_149 : decode cX12_begins 149 = .ok (.iadd, 1) := by decide +kernel
theorem dX12_begins_150 : decode cX12_begins 150 = .ok (.iaload, 1) := by decide +kernel
theorem dX12_begins_151 : decode cX12_begins 151 = .ok (.iastore, 1) := by decide +kernel
theorem dX12_begins_152 : decode cX12_begins 152 = .ok (.iinc 1 1, 3) := by decide +kernel
theorem dX12_begins_155 : decode cX12_begins 155 = .ok (.goto (-29), 3) := by decide +kernel
theorem dX12_begins_158 : decode cX12_begins 158 = .ok (.iconst 0, 1) := by decide +kernel
theorem dX12_begins_159 : decode cX12_begins 159 = .ok (.istore_n 1, 1) := by decide +kernel
theorem dX12_begins_160 : decode cX12_begins 160 = .ok (.iload_n 1, 1) := by decide +kernel
theorem dX12_begins_161 : decode cX12_begins 161 = .ok (.iconst 4, 1) := by decide +kernel
theorem dX12_begins_162 : decode cX12_begins 162 = .ok (.if_icmp .ge 57, 3) := by decide +kernel
theorem dX12_begins_165 : decode cX12_begins 165 = .ok (.aload_n 0, 1) := by decide +kernel
theorem dX12_begins_166 : decode cX12_begins 166 = .ok (.getfield 39, 3) := by decide +kernel
theorem dX12_begins_169 : decode cX12_begins 169 = .ok (.bipush 40, 2) := by decide +kernel
theorem dX12_begins_171 : decode cX12_begins 171 = .ok (.iconst 3, 1) := by decide +kernel
theorem dX12_begins_172 : decode cX12_begins 172 = .ok (.iload_n 1, 1) := by decide +kernel
theorem dX12_begins_173 : decode cX12_begins 173 = .ok (.imul, 1) := by decide +kernel
theorem dX12_begins_174 : decode cX12_begins 174 = .ok (.iadd, 1) := by decide +kernel
theorem dX12_begins_175 : decode cX12_begins 175 = .ok (.aload_n 0, 1) := by decide +kernel
theorem dX12_begins_176 : decode cX12_begins 176 = .ok (.getfield 39, 3) := by decide +kernel
theorem dX12_begins_179 : decode cX12_begins 179 = .ok (.bipush 106, 2) := by decide +kernel
theorem dX12_begins_181 : decode cX12_begins 181 = .ok (.iload_n 1, 1) := by decide +kernel
theorem dX12_begins_182 : decode cX12_begins 182 = .ok (.iadd, 1) := by decide +kernel
theorem dX12_begins_183 : decode cX12_begins 183 = .ok (.iaload, 1) := by decide +kernel
theorem dX12_begins_184 : decode cX12_begins 184 = .ok (.iastore, 1) := by decide +kernel
theorem dX12_begins_185 : decode cX12_begins 185 = .ok (.aload_n 0, 1) := by decide +kernel
theorem dX12_begins_186 : decode cX12_begins 186 = .ok (.getfield 39, 3) := by decide +kernel
theorem dX12_begins_189 : decode cX12_begins 189 = .ok (.bipush 40, 2) := by decide +kernel
theorem dX12_begins_191 : decode cX12_begins 191 = .ok (.iconst 3, 1) := by decide +kernel
theorem dX12_begins_192 : decode cX12_begins 192 = .ok (.iload_n 1, 1) := by decide +kernel
theorem dX12_begins_193 : decode cX12_begins 193 = .ok (.imul, 1) := by decide +kernel
theorem dX12_begins_194 : decode cX12_begins 194 = .ok (.iadd, 1) := by decide +kernel
theorem dX12_begins_195 : decode cX12_begins 195 = .ok (.iconst 1, 1) := by decide +kernel
theorem dX12_begins_196 : decode cX12_begins 196 = .ok (.iadd, 1) := by decide +kernel
theorem dX12_begins_197 : decode cX12_begins 197 = .ok (.iconst 0, 1) := by decide +kernel
theorem dX12_begins_198 : decode cX12_begins 198 = .ok (.iastore, 1) := by decide +kernel
theorem dX12_begins_199 : decode cX12_begins 199 = .ok (.aload_n 0, 1) := by decide +kernel
theorem dX12_begins_200 : decode cX12_begins 200 = .ok (.getfield 39, 3) := by decide +kernel
theorem dX12_begins_203 : decode cX12_begins 203 = .ok (.bipush 40, 2) := by decide +kernel
theorem dX12_begins_205 : decode cX12_begins 205 = .ok (.iconst 3, 1) := by decide +kernel
theorem dX12_begins_206 : decode cX12_begins 206 = .ok (.iload_n 1, 1) := by decide +kernel
theorem dX12_begins_207 : decode cX12_begins 207 = .ok (.imul, 1) := by decide +kernel
theorem dX12_begins_208 : decode cX12_begins 208 = .ok (.iadd, 1) := by decide +kernel
theorem dX12_begins_209 : decode cX12_begins 209 = .ok (.iconst 2, 1) := by decide +kernel
theorem dX12_begins_210 : decode cX12_begins 210 = .ok (.iadd, 1) := by decide +kernel
theorem dX12_begins_211 : decode cX12_begins 211 = .ok (.iconst (-1), 1) := by decide +kernel
theorem dX12_begins_212 : decode cX12_begins 212 = .ok (.iastore, 1) := by decide +kernel
theorem dX12_begins_213 : decode cX12_begins 213 = .ok (.iinc 1 1, 3) := by decide +kernel
theorem dX12_begins_216 : decode cX12_begins 216 = .ok (.goto (-56), 3) := by decide +kernel
theorem dX12_begins_219 : decode cX12_begins 219 = .ok (.return_, 1) := by decide +kernel
theorem dX12_cellHere_0 : decode cX12_cellHere 0 = .ok (.aload_n 0, 1) := by decide +kernel
theorem dX12_cellHere_1 : decode cX12_cellHere 1 = .ok (.iload_n 2, 1) := by decide +kernel
theorem dX12_cellHere_2 : decode cX12_cellHere 2 = .ok (.iload_n 3, 1) := by decide +kernel
theorem dX12_cellHere_3 : decode cX12_cellHere 3 = .ok (.invokevirtual 168, 3) := by decide +kernel
theorem dX12_cellHere_6 : decode cX12_cellHere 6 = .ok (.ifCond .ne 5, 3) := by decide +kernel
theorem dX12_cellHere_9 : decode cX12_cellHere 9 = .ok (.iconst 0, 1) := by decide +kernel
theorem dX12_cellHere_10 : decode cX12_cellHere 10 = .ok (.ireturn, 1) := by decide +kernel
theorem dX12_cellHere_11 : decode cX12_cellHere 11 = .ok (.aload_n 0, 1) := by decide +kernel
theorem dX12_cellHere_12 : decode cX12_cellHere 12 = .ok (.getfield 26, 3) := by decide +kernel
theorem dX12_cellHere_15 : decode cX12_cellHere 15 = .ok (.iload_n 1, 1) := by decide +kernel
theorem dX12_cellHere_16 : decode cX12_cellHere 16 = .ok (.aload_n 0, 1) := by decide +kernel
theorem dX12_cellHere_17 : decode cX12_cellHere 17 = .ok (.getfield 118, 3) := by decide +kernel
theorem dX12_cellHere_20 : decode cX12_cellHere 20 = .ok (.iastore, 1) := by decide +kernel
theorem dX12_cellHere_21 : decode cX12_cellHere 21 = .ok (.iconst 1, 1) := by decide +kernel
theorem dX12_cellHere_22 : decode cX12_cellHere 22 = .ok (.ireturn, 1) := by decide +kernel
theorem dX12_isLetter_0 : decode cX12_isLetter 0 = .ok (.iload_n 1, 1) := by decide +kernel
theorem dX12_isLetter_1 : decode cX12_isLetter 1 = .ok (.aload_n 0, 1) := by decide +kernel
theorem dX12_isLetter_2 : decode cX12_isLetter 2 = .ok (.getfield 83, 3) := by decide +kernel
theorem dX12_isLetter_5 : decode cX12_isLetter 5 = .ok (.if_icmp .ge 29, 3) := by decide +kernel
theorem dX12_isLetter_8 : decode cX12_isLetter 8 = .ok (.aload_n 0, 1) := by decide +kernel
theorem dX12_isLetter_9 : decode cX12_isLetter 9 = .ok (.getfield 7, 3) := by decide +kernel
theorem dX12_isLetter_12 : decode cX12_isLetter 12 = .ok (.iload_n 1, 1) := by decide +kernel
theorem dX12_isLetter_13 : decode cX12_isLetter 13 = .ok (.baload, 1) := by decide +kernel
theorem dX12_isLetter_14 : decode cX12_isLetter 14 = .ok (.bipush 97, 2) := by decide +kernel
theorem dX12_isLetter_16 : decode cX12_isLetter 16 = .ok (.if_icmp .lt 18, 3) := by decide +kernel
theorem dX12_isLetter_19 : decode cX12_isLetter 19 = .ok (.aload_n 0, 1) := by decide +kernel
theorem dX12_isLetter_20 : decode cX12_isLetter 20 = .ok (.getfield 7, 3) := by decide +kernel
theorem dX12_isLetter_23 : decode cX12_isLetter 23 = .ok (.iload_n 1, 1) := by decide +kernel
theorem dX12_isLetter_24 : decode cX12_isLetter 24 = .ok (.baload, 1) := by decide +kernel
theorem dX12_isLetter_25 : decode cX12_isLetter 25 = .ok (.bipush 122, 2) := by decide +kernel
theorem dX12_isLetter_27 : decode cX12_isLetter 27 = .ok (.if_icmp .gt 7, 3) := by decide +kernel
theorem dX12_isLetter_30 : decode cX12_isLetter 30 = .ok (.iconst 1, 1) := by decide +kernel
theorem dX12_isLetter_31 : decode cX12_isLetter 31 = .ok (.goto 4, 3) := by decide +kernel
theorem dX12_isLetter_34 : decode cX12_isLetter 34 = .ok (.iconst 0, 1) := by decide +kernel
theorem dX12_isLetter_35 : decode cX12_isLetter 35 = .ok (.ireturn, 1) := by decide +kernel
theorem dX12_isWantedMore_0 : decode cX12_isWantedMore 0 = .ok (.aload_n 0, 1) := by decide +kernel
theorem dX12_isWantedMore_1 : decode cX12_isWantedMore 1 = .ok (.getfield 55, 3) := by decide +kernel
theorem dX12_isWantedMore_4 : decode cX12_isWantedMore 4 = .ok (.bipush 6, 2) := by decide +kernel
theorem dX12_isWantedMore_6 : decode cX12_isWantedMore 6 = .ok (.iload_n 1, 1) := by decide +kernel
theorem dX12_isWantedMore_7 : decode cX12_isWantedMore 7 = .ok (.imul, 1) := by decide +kernel
theorem dX12_isWantedMore_8 : decode cX12_isWantedMore 8 = .ok (.iload_n 2, 1) := by decide +kernel
theorem dX12_isWantedMore_9 : decode cX12_isWantedMore 9 = .ok (.iadd, 1) := by decide +kernel
theorem dX12_isWantedMore_10 : decode cX12_isWantedMore 10 = .ok (.laload, 1) := by decide +kernel
theorem dX12_isWantedMore_11 : decode cX12_isWantedMore 11 = .ok (.aload_n 0, 1) := by decide +kernel
theorem dX12_isWantedMore_12 : decode cX12_isWantedMore 12 = .ok (.getfield 55, 3) := by decide +kernel
theorem dX12_isWantedMore_15 : decode cX12_isWantedMore 15 = .ok (.bipush 6, 2) := by decide +kernel
theorem dX12_isWantedMore_17 : decode cX12_isWantedMore 17 = .ok (.iload_n 1, 1) := by decide +kernel
theorem dX12_isWantedMore_18 : decode cX12_isWantedMore 18 = .ok (.imul, 1) := by decide +kernel
theorem dX12_isWantedMore_19 : decode cX12_isWantedMore 19 = .ok (.iload_n 3, 1) := by decide +kernel
theorem dX12_isWantedMore_20 : decode cX12_isWantedMore 20 = .ok (.iadd, 1) := by decide +kernel
theorem dX12_isWantedMore_21 : decode cX12_isWantedMore 21 = .ok (.laload, 1) := by decide +kernel
theorem dX12_isWantedMore_22 : decode cX12_isWantedMore 22 = .ok (.lcmp, 1) := by decide +kernel
theorem dX12_isWantedMore_23 : decode cX12_isWantedMore 23 = .ok (.ifCond .le 7, 3) := by decide +kernel
theorem dX12_isWantedMore_26 : decode cX12_isWantedMore 26 = .ok (.iconst 1, 1) := by decide +kernel
theorem dX12_isWantedMore_27 : decode cX12_isWantedMore 27 = .ok (.goto 4, 3) := by decide +kernel
theorem dX12_isWantedMore_30 : decode cX12_isWantedMore 30 = .ok (.iconst 0, 1) := by decide +kernel
theorem dX12_isWantedMore_31 : decode cX12_isWantedMore 31 = .ok (.ireturn, 1) := by decide +kernel
theorem dX12_numberHere_0 : decode cX12_numberHere 0 = .ok (.aload_n 0, 1) := by decide +kernel
theorem dX12_numberHere_1 : decode cX12_numberHere 1 = .ok (.invokevirtual 96, 3) := by decide +kernel
theorem dX12_numberHere_4 : decode cX12_numberHere 4 = .ok (.pop, 1) := by decide +kernel
theorem dX12_numberHere_5 : decode cX12_numberHere 5 = .ok (.aload_n 0, 1) := by decide +kernel
theorem dX12_numberHere_6 : decode cX12_numberHere 6 = .ok (.aload_n 0, 1) := by decide +kernel
theorem dX12_numberHere_7 : decode cX12_numberHere 7 = .ok (.getfield 93, 3) := by decide +kernel
theorem dX12_numberHere_10 : decode cX12_numberHere 10 = .ok (.invokevirtual 111, 3) := by decide +kernel
theorem dX12_numberHere_13 : decode cX12_numberHere 13 = .ok (.ifCond .ne 13, 3) := by decide +kernel
theorem dX12_numberHere_16 : decode cX12_numberHere 16 = .ok (.aload_n 0, 1) := by decide +kernel
theorem dX12_numberHere_17 : decode cX12_numberHere 17 = .ok (.iconst 0, 1) := by decide +kernel
theorem dX12_numberHere_18 : decode cX12_numberHere 18 = .ok (.aload_n 0, 1) := by decide +kernel
theorem dX12_numberHere_19 : decode cX12_numberHere 19 = .ok (.getfield 93, 3) := by decide +kernel
theorem dX12_numberHere_22 : decode cX12_numberHere 22 = .ok (.invokevirtual 114, 3) := by decide +kernel
theorem dX12_numberHere_25 : decode cX12_numberHere 25 = .ok (.ireturn, 1) := by decide +kernel
theorem dX12_numberHere_26 : decode cX12_numberHere 26 = .ok (.aload_n 0, 1) := by decide +kernel
theorem dX12_numberHere_27 : decode cX12_numberHere 27 = .ok (.getfield 93, 3) := by decide +kernel
theorem dX12_numberHere_30 : decode cX12_numberHere 30 = .ok (.istore_n 3, 1) := by decide +kernel
theorem dX12_numberHere_31 : decode cX12_numberHere 31 = .ok (.iconst 0, 1) := by decide +kernel
theorem dX12_numberHere_32 : decode cX12_numberHere 32 = .ok (.istore 4, 2) := by decide +kernel
theorem dX12_numberHere_34 : decode cX12_numberHere 34 = .ok (.aload_n 0, 1) := by decide +kernel
theorem dX12_numberHere_35 : decode cX12_numberHere 35 = .ok (.aload_n 0, 1) := by decide +kernel
theorem dX12_numberHere_36 : decode cX12_numberHere 36 = .ok (.getfield 93, 3) := by decide +kernel
theorem dX12_numberHere_39 : decode cX12_numberHere 39 = .ok (.invokevirtual 111, 3) := by decide +kernel
theorem dX12_numberHere_42 : decode cX12_numberHere 42 = .ok (.ifCond .eq 46, 3) := by decide +kernel
theorem dX12_numberHere_45 : decode cX12_numberHere 45 = .ok (.aload_n 0, 1) := by decide +kernel
theorem dX12_numberHere_46 : decode cX12_numberHere 46 = .ok (.getfield 93, 3) := by decide +kernel
theorem dX12_numberHere_49 : decode cX12_numberHere 49 = .ok (.iload_n 3, 1) := by decide +kernel
theorem dX12_numberHere_50 : decode cX12_numberHere 50 = .ok (.isub, 1) := by decide +kernel
theorem dX12_numberHere_51 : decode cX12_numberHere 51 = .ok (.iconst 5, 1) := by decide +kernel
theorem dX12_numberHere_52 : decode cX12_numberHere 52 = .ok (.if_icmp .ge 23, 3) := by decide +kernel
theorem dX12_numberHere_55 : decode cX12_numberHere 55 = .ok (.bipush 10, 2) := by decide +kernel
theorem dX12_numberHere_57 : decode cX12_numberHere 57 = .ok (.iload 4, 2) := by decide +kernel
theorem dX12_numberHere_59 : decode cX12_numberHere 59 = .ok (.imul, 1) := by decide +kernel
theorem dX12_numberHere_60 : decode cX12_numberHere 60 = .ok (.aload_n 0, 1) := by decide +kernel
theorem dX12_numberHere_61 : decode cX12_numberHere 61 = .ok (.getfield 7, 3) := by decide +kernel
theorem dX12_numberHere_64 : decode cX12_numberHere 64 = .ok (.aload_n 0, 1) := by decide +kernel
theorem dX12_numberHere_65 : decode cX12_numberHere 65 = .ok (.getfield 93, 3) := by decide +kernel
theorem dX12_numberHere_68 : decode cX12_numberHere 68 = .ok (.baload, 1) := by decide +kernel
theorem dX12_numberHere_69 : decode cX12_numberHere 69 = .ok (.iadd, 1) := by decide +kernel
theorem dX12_numberHere_70 : decode cX12_numberHere 70 = .ok (.bipush 48, 2) := by decide +kernel
theorem dX12_numberHere_72 : decode cX12_numberHere 72 = .ok (.isub, 1) := by decide +kernel
theorem dX12_numberHere_73 : decode cX12_numberHere 73 = .ok (.istore 4, 2) := by decide +kernel
theorem dX12_numberHere_75 : decode cX12_numberHere 75 = .ok (.aload_n 0, 1) := by decide +kernel
theorem dX12_numberHere_76 : decode cX12_numberHere 76 = .ok (.dup, 1) := by decide +kernel
theorem dX12_numberHere_77 : decode cX12_numberHere 77 = .ok (.getfield 93, 3) := by decide +kernel
theorem dX12_numberHere_80 : decode cX12_numberHere 80 = .ok (.iconst 1, 1) := by decide +kernel
theorem dX12_numberHere_81 : decode cX12_numberHere 81 = .ok (.iadd, 1) := by decide +kernel
theorem dX12_numberHere_82 : decode cX12_numberHere 82 = .ok (.putfield 93, 3) := by decide +kernel
theorem dX12_numberHere_85 : decode cX12_numberHere 85 = .ok (.goto (-51), 3) := by decide +kernel
theorem dX12_numberHere_88 : decode cX12_numberHere 88 = .ok (.aload_n 0, 1) := by decide +kernel
theorem dX12_numberHere_89 : decode cX12_numberHere 89 = .ok (.iload 4, 2) := by decide +kernel
theorem dX12_numberHere_91 : decode cX12_numberHere 91 = .ok (.putfield 118, 3) := by decide +kernel
theorem dX12_numberHere_94 : decode cX12_numberHere 94 = .ok (.aload_n 0, 1) := by decide +kernel
theorem dX12_numberHere_95 : decode cX12_numberHere 95 = .ok (.getfield 93, 3) := by decide +kernel
theorem dX12_numberHere_98 : decode cX12_numberHere 98 = .ok (.iload_n 3, 1) := by decide +kernel
theorem dX12_numberHere_99 : decode cX12_numberHere 99 = .ok (.isub, 1) := by decide +kernel
theorem dX12_numberHere_100 : decode cX12_numberHere 100 = .ok (.iconst 5, 1) := by decide +kernel
theorem dX12_numberHere_101 : decode cX12_numberHere 101 = .ok (.if_icmp .gt 16, 3) := by decide +kernel
theorem dX12_numberHere_104 : decode cX12_numberHere 104 = .ok (.iload 4, 2) := by decide +kernel
theorem dX12_numberHere_106 : decode cX12_numberHere 106 = .ok (.i2l, 1) := by decide +kernel
theorem dX12_numberHere_107 : decode cX12_numberHere 107 = .ok (.iload_n 1, 1) := by decide +kernel
theorem dX12_numberHere_108 : decode cX12_numberHere 108 = .ok (.i2l, 1) := by decide +kernel
theorem dX12_numberHere_109 : decode cX12_numberHere 109 = .ok (.iload_n 2, 1) := by decide +kernel
theorem dX12_numberHere_110 : decode cX12_numberHere 110 = .ok (.i2l, 1) := by decide +kernel
theorem dX12_numberHere_111 : decode cX12_numberHere 111 = .ok (.invokestatic 121, 3) := by decide +kernel
theorem dX12_numberHere_114 : decode cX12_numberHere 114 = .ok (.ifCond .ne 12, 3) := by decide +kernel
theorem dX12_numberHere_117 : decode cX12_numberHere 117 = .ok (.aload_n 0, 1) := by decide +kernel
theorem dX12_numberHere_118 : decode cX12_numberHere 118 = .ok (.iconst 1, 1) := by decide +kernel
theorem dX12_numberHere_119 : decode cX12_numberHere 119 = .ok (.iload_n 3, 1) := by decide +kernel
theorem dX12_numberHere_120 : decode cX12_numberHere 120 = .ok (.invokevirtual 114, 3) := by decide +kernel
theorem dX12_numberHere_123 : decode cX12_numberHere 123 = .ok (.ifCond .eq 7, 3) := by decide +kernel
theorem dX12_numberHere_126 : decode cX12_numberHere 126 = .ok (.iconst 1, 1) := by decide +kernel
theorem dX12_numberHere_127 : decode cX12_numberHere 127 = .ok (.goto 4, 3) := by decide +kernel
theorem dX12_numberHere_130 : decode cX12_numberHere 130 = .ok (.iconst 0, 1) := by decide +kernel
theorem dX12_numberHere_131 : decode cX12_numberHere 131 = .ok (.ireturn, 1) := by decide +kernel
theorem dX12_passWord_0 : decode cX12_passWord 0 = .ok (.aload_n 0, 1) := by decide +kernel
theorem dX12_passWord_1 : decode cX12_passWord 1 = .ok (.aload_n 0, 1) := by decide +kernel
theorem dX12_passWord_2 : decode cX12_passWord 2 = .ok (.getfield 93, 3) := by decide +kernel
theorem dX12_passWord_5 : decode cX12_passWord 5 = .ok (.invokevirtual 100, 3) := by decide +kernel
theorem dX12_passWord_8 : decode cX12_passWord 8 = .ok (.ifCond .eq 16, 3) := by decide +kernel
theorem dX12_passWord_11 : decode cX12_passWord 11 = .ok (.aload_n 0, 1) := by decide +kernel
theorem dX12_passWord_12 : decode cX12_passWord 12 = .ok (.dup, 1) := by decide +kernel
theorem dX12_passWord_13 : decode cX12_passWord 13 = .ok (.getfield 93, 3) := by decide +kernel
theorem dX12_passWord_16 : decode cX12_passWord 16 = .ok (.iconst 1, 1) := by decide +kernel
theorem dX12_passWord_17 : decode cX12_passWord 17 = .ok (.iadd, 1) := by decide +kernel
theorem dX12_passWord_18 : decode cX12_passWord 18 = .ok (.putfield 93, 3) := by decide +kernel
theorem dX12_passWord_21 : decode cX12_passWord 21 = .ok (.goto (-21), 3) := by decide +kernel
theorem dX12_passWord_24 : decode cX12_passWord 24 = .ok (.return_, 1) := by decide +kernel
theorem li_106 : (106 : Int32).toInt = 106 := by decide
theorem li_114 : (114 : Int32).toInt = 114 := by decide
theorem li_306 : (306 : Int32).toInt = 306 := by decide
theorem li_34 : (34 : Int32).toInt = 34 := by decide
theorem li_58 : (58 : Int32).toInt = 58 := by decide
theorem li_70 : (70 : Int32).toInt = 70 := by decide
theorem iv_59_0 {B : Nat} : aiv B 59 (0 : Int32).toInt.toNat = (0, 1) := by rw [show (0 : Int32).toInt.toNat = 0 by decide]; rfl
theorem iv_59_3 {B : Nat} : aiv B 59 (3 : Int32).toInt.toNat = (0, 6) := by rw [show (3 : Int32).toInt.toNat = 3 by decide]; rfl
theorem iv_59_4 {B : Nat} : aiv B 59 (4 : Int32).toInt.toNat = (0, 4) := by rw [show (4 : Int32).toInt.toNat = 4 by decide]; rfl
theorem iv_59_5 {B : Nat} : aiv B 59 (5 : Int32).toInt.toNat = (0, 6) := by rw [show (5 : Int32).toInt.toNat = 5 by decide]; rfl
theorem iv_63_11 {B : Nat} : aiv B 63 (11 : Int32).toInt.toNat = ((-1), 5) := by rw [show (11 : Int32).toInt.toNat = 11 by decide]; rfl
theorem iv_63_12 {B : Nat} : aiv B 63 (12 : Int32).toInt.toNat = ((-2147483648), 2147483647) := by rw [show (12 : Int32).toInt.toNat = 12 by decide]; rfl
theorem iv_63_13 {B : Nat} : aiv B 63 (13 : Int32).toInt.toNat = ((-2147483648), 2147483647) := by rw [show (13 : Int32).toInt.toNat = 13 by decide]; rfl
theorem iv_63_14 {B : Nat} : aiv B 63 (14 : Int32).toInt.toNat = ((-2147483648), 2147483647) := by rw [show (14 : Int32).toInt.toNat = 14 by decide]; rfl
theorem iv_63_15 {B : Nat} : aiv B 63 (15 : Int32).toInt.toNat = ((-2147483648), 2147483647) := by rw [show (15 : Int32).toInt.toNat = 15 by decide]; rfl
set_option maxHeartbeats 4000000 in
set_option maxRecDepth 100000 in
theorem t_X12_numberHere (l : Launch) (dC : Nat → ClassId) (dI : Nat → Nat → Nat) (tys : List (ClassId × FieldType)) (κ : tK) (B : Nat) (ws : va_W) (hT : Ty κ tys B ws) (a0 : Nat) (k_a0 : κ a0 = some 12) (a1 : Int32) (l_a1 : 0 ≤ a1.toInt) (h_a1 : a1.toInt ≤ 20) (a2 : Int32) (l_a2 : (-1) ≤ a2.toInt) (h_a2 : a2.toInt ≤ 99999) (f0 : Int32) (l_f0 : 0 ≤ f0.toInt) (h_f0 : f0.toInt ≤ 401) (f_a0_X12_8 : fld ws a0 12 8 (.int f0)) (f1 : Int32) (l_f1 : 0 ≤ f1.toInt) (h_f1 : f1.toInt ≤ 400) (f_a0_X12_1 : fld ws a0 12 1 (.int f1)) (f2 : Int32) (f_a0_X12_10 : fld ws a0 12 10 (.int f2)) (sz : Nat) : Met l yX12_numberHere (ws_u yX12_numberHere cX12_numberHere 5 (some .boolean)) ({ frames := 1, cells := 0, slots := 0, locals := 25 }) (va_Pc [.ref a0, .int a1, .int a2] (cPre (dC, dI) tys ws sz)) (va_Qi (fun (r : Int32) (w : va_W) => 0 ≤ r.toInt ∧ r.toInt ≤ 1 ∧ Ty κ tys B w ∧ Sm [(12, 8), (12, 9), (12, 10)] [] κ ws w ∧ (∃ (xn : Int32) (xm : Int32), 0 ≤ xn.toInt ∧ xn.toInt ≤ 401 ∧ (-2147483648) ≤ xm.toInt ∧ xm.toInt ≤ 2147483647 ∧ fld w a0 12 8 (.int xn) ∧ fld w a0 12 10 (.int xm) ∧ f0.toInt ≤ xn.toInt ∧ (xn.toInt = f0.toInt ∨ xn.toInt ≤ f1.toInt) ∧ (r.toInt = 0 ∨ (a1.toInt ≤ xm.toInt ∧ xm.toInt ≤ a2.toInt)))) (fun w t => cPost (dC, dI) tys w (va_A ws sz) t) (va_A ws sz)) 0 0 (va_A ws sz) := by
  refine Met.ofW (cc := cX12_numberHere) (maxL := 5) (ret := (some .boolean)) (by decide) rfl ?_
  intro p e s m args below meth c s₁ B0 hml hv
  obtain ⟨rfl, hsz, hP, hK, hD0, hE⟩ := hv
  have hx := B0.exec
  have hb := B0.bytes
  have hr := B0.returns
  have hts0 := atoms_spec (ws := ws_u yX12_numberHere cX12_numberHere 5 (some .boolean)) B0.pre
  have hts : ∀ w ∈ gT, w.before _ s = true := fun w h => hts0 w (List.mem_cons_of_mem _ h)
  have hown : s.vm.findClass RX12 = some m.cls := findClass_of_methodNamed B0.named
  have hlocks := B0.notSynchronized
  subst hsz
  have hD := hD0.self (sz := s.heap.size)
  generalize hAe : va_A ws s.heap.size = A at hD ⊢
  have hA : ∀ q : Nat, s.heap.size ≤ q → A q := fun q h => by rw [← hAe]; exact Or.inr h
  have hw : tW (dC, dI) tys κ B A s ws s.heap [] := ⟨hK, hP, hD, va_S.rf, hT⟩
  have hM : Sm [(12, 8), (12, 9), (12, 10)] [] κ ws ws := Sm.rf
  clear hP hK hD hD0 hts0
  have l_f2 := i32_lo f2
  have h_f2 := i32_hi f2
  have hl := lv_entry ([.ref a0, .int a1, .int a2]) (n := 5) (Nat.le_of_ble_eq_true rfl)
  rw [lg_entry_eq]
  generalize (lg_sl ([.ref a0, .int a1, .int a2]) ++ List.replicate (5 - (lg_sl ([.ref a0, .int a1, .int a2])).length) Slot.unset).toArray = ls at hl ⊢
  have hl : lv_has ls 5 [(0, .ref a0), (1, .int a1), (2, .int a2)] := hl
  refine t_start (fun QQ hQ => ?_)
  refine lv_aload_n hx hb dX12_numberHere_0 rfl (lv_at hl 0 rfl) ?_
  refine t_calli (va_runV (As := []) (rest := []) ⟨hx, hb, hml, hown, hts⟩ (t_X12_see l dC dI tys κ B ws hw.2.2.2.2 a0 k_a0 f0 (by omega) (by omega) f_a0_X12_8 f1 (by omega) (by omega) f_a0_X12_1 s.heap.size) (cwV 0 hts (gUV tw_1264 tw_1266 ts_3_3 tw_13 tw_1267) rfl rfl rfl (by decide +kernel) ⟨(Nat.le_of_ble_eq_true rfl), (Nat.le_of_ble_eq_true rfl)⟩) ⟨cPre.blind, t_recv hw (ci := 12) k_a0 rfl rfl, cPre.use hw.2.1 hw.1 hw.2.2.1 hE⟩ rfl rfl hl.1 rfl (lv_room (Nat.le_of_ble_eq_true rfl)) dX12_numberHere_1 ⟨(Nat.le_of_ble_eq_true rfl), (Nat.le_of_ble_eq_true rfl)⟩) hw hA (fun _ _ h => h.2.2.1) (fun v1 w_1 H locs hp hw => ?_)
  obtain ⟨l_v1, h_v1, _, hm, ⟨v1n, l_v1n, h_v1n, f_a0_X12_8, y_v1⟩⟩ := hp
  have hM := hM.trans hm (by decide) (by decide)
  have f_a0_X12_1 := hm.1 _ _ _ _ f_a0_X12_1 (by decide)
  have f_a0_X12_10 := hm.1 _ _ _ _ f_a0_X12_10 (by decide)
  refine lv_pop hx hb dX12_numberHere_4 rfl ?_
  refine lv_aload_n hx hb dX12_numberHere_5 rfl (lv_at hl 0 rfl) ?_
  refine lv_aload_n hx hb dX12_numberHere_6 rfl (lv_at hl 0 rfl) ?_
  refine t_getk (ci := 12) (C := RX12) (T := TX12) (N := 38) hx hb hts iX12 hown hw rfl 8 (by decide) (hts _ tw_1133) (fun _ h9 => h9) dX12_numberHere_7 f_a0_X12_8 ?_
  refine t_calli (va_runV (As := [.int v1n]) (rest := []) ⟨hx, hb, hml, hown, hts⟩ (t_X12_isDigit l dC dI tys κ B w_1 hw.2.2.2.2 a0 k_a0 v1n (by omega) (by omega) f1 (by omega) (by omega) f_a0_X12_1 H.size) (cwV 1 hts (gUV tw_1312 tw_1314 ts_3_13 tw_13 tw_1315) rfl rfl rfl (by decide +kernel) ⟨(Nat.le_of_ble_eq_true rfl), (Nat.le_of_ble_eq_true rfl)⟩) ⟨cPre.blind, t_recv hw (ci := 12) k_a0 rfl rfl, cPre.use hw.2.1 hw.1 hw.2.2.1 hE⟩ rfl rfl hl.1 rfl (lv_room (Nat.le_of_ble_eq_true rfl)) dX12_numberHere_10 ⟨(Nat.le_of_ble_eq_true rfl), (Nat.le_of_ble_eq_true rfl)⟩) hw hA (fun _ _ h => h.2.2.1) (fun v10 w_2 H locs hp hw => ?_)
  obtain ⟨l_v10, h_v10, _, hm, x_v10_0, x_v10_1⟩ := hp
  have hM := hM.trans hm (by decide) (by decide)
  have f_a0_X12_1 := hm.1 _ _ _ _ f_a0_X12_1 (by decide)
  have f_a0_X12_10 := hm.1 _ _ _ _ f_a0_X12_10 (by decide)
  have f_a0_X12_8 := hm.1 _ _ _ _ f_a0_X12_8 (by decide)
  refine lv_if_ne (tgt := 26) hx hb dX12_numberHere_13 (by decide) (fun c_13 => ?_) (fun c_13 => ?_)
  · simp only [fa_lt, fa_le, fa_eq, li_0] at c_13
    refine lv_aload_n hx hb dX12_numberHere_26 rfl (lv_at hl 0 rfl) ?_
    refine t_getk (ci := 12) (C := RX12) (T := TX12) (N := 38) hx hb hts iX12 hown hw rfl 8 (by decide) (hts _ tw_1133) (fun _ h9 => h9) dX12_numberHere_27 f_a0_X12_8 ?_
    refine lv_istore_n (lv' := [(3, .int v1n), (0, .ref a0), (1, .int a1), (2, .int a2)]) hx hb dX12_numberHere_30 rfl hl (by decide) rfl (fun ls hl => ?_)
    refine lv_iconst (v := 0) hx hb dX12_numberHere_31 (by decide) ?_
    refine lv_istore (lv' := [(4, .int 0), (3, .int v1n), (0, .ref a0), (1, .int a1), (2, .int a2)]) hx hb dX12_numberHere_32 hl (by decide) rfl (fun ls hl => ?_)
    have J34 : ∀ (n : Nat) (H : Heap) (locs : List Loc) (ls : Array Slot), (∃ (w34 : va_W) (p34_l4 : Int32) (p34_m_a0_X12_8 : Int32), tW (dC, dI) tys κ B A s w34 H locs ∧ Sm [(12, 8), (12, 9), (12, 10)] [] κ ws w34 ∧ (-2147483648) ≤ p34_l4.toInt ∧ p34_l4.toInt ≤ 2147483647 ∧ 0 ≤ p34_m_a0_X12_8.toInt ∧ p34_m_a0_X12_8.toInt ≤ 400 ∧ fld w34 a0 12 1 (.int f1) ∧ fld w34 a0 12 10 (.int f2) ∧ fld w34 a0 12 8 (.int p34_m_a0_X12_8) ∧ v1n.toInt ≤ p34_m_a0_X12_8.toInt ∧ p34_m_a0_X12_8.toInt ≤ f1.toInt ∧ lv_has ls 5 [(0, .ref a0), (1, .int a1), (2, .int a2), (3, .int v1n), (4, .int p34_l4)] ∧ (400 - p34_m_a0_X12_8.toInt).toNat = n) → W p l e (headSpec (ws_u yX12_numberHere cX12_numberHere 5 (some .boolean)) ({ frames := 1, cells := 0, slots := 0, locals := 25 })).room s m ([.ref a0, .int a1, .int a2] : List Value).toArray below meth c H locs 0 0 QQ (F0 m 34 ls []) := by
      refine loopT _ ?_
      intro n_34 H locs ls hI ih_34
      obtain ⟨w34, p34_l4, p34_m_a0_X12_8, hw, hM, l_p34_l4, h_p34_l4, l_p34_m_a0_X12_8, h_p34_m_a0_X12_8, f_a0_X12_1, f_a0_X12_10, f_a0_X12_8, li_34_0, li_34_1, hl, hn_34⟩ := hI
      refine lv_aload_n hx hb dX12_numberHere_34 rfl (lv_at hl 0 rfl) ?_
      refine lv_aload_n hx hb dX12_numberHere_35 rfl (lv_at hl 0 rfl) ?_
      refine t_getk (ci := 12) (C := RX12) (T := TX12) (N := 38) hx hb hts iX12 hown hw rfl 8 (by decide) (hts _ tw_1133) (fun _ h9 => h9) dX12_numberHere_36 f_a0_X12_8 ?_
      refine t_calli (va_runV (As := [.int p34_m_a0_X12_8]) (rest := []) ⟨hx, hb, hml, hown, hts⟩ (t_X12_isDigit l dC dI tys κ B w34 hw.2.2.2.2 a0 k_a0 p34_m_a0_X12_8 (by omega) (by omega) f1 (by omega) (by omega) f_a0_X12_1 H.size) (cwV 1 hts (gUV tw_1312 tw_1314 ts_3_13 tw_13 tw_1315) rfl rfl rfl (by decide +kernel) ⟨(Nat.le_of_ble_eq_true rfl), (Nat.le_of_ble_eq_true rfl)⟩) ⟨cPre.blind, t_recv hw (ci := 12) k_a0 rfl rfl, cPre.use hw.2.1 hw.1 hw.2.2.1 hE⟩ rfl rfl hl.1 rfl (lv_room (Nat.le_of_ble_eq_true rfl)) dX12_numberHere_39 ⟨(Nat.le_of_ble_eq_true rfl), (Nat.le_of_ble_eq_true rfl)⟩) hw hA (fun _ _ h => h.2.2.1) (fun v39 w_3 H locs hp hw => ?_)
      obtain ⟨l_v39, h_v39, _, hm, x_v39_0, x_v39_1⟩ := hp
      have hM := hM.trans hm (by decide) (by decide)
      have f_a0_X12_1 := hm.1 _ _ _ _ f_a0_X12_1 (by decide)
      have f_a0_X12_10 := hm.1 _ _ _ _ f_a0_X12_10 (by decide)
      have f_a0_X12_8 := hm.1 _ _ _ _ f_a0_X12_8 (by decide)
      refine lv_if_eq (tgt := 88) hx hb dX12_numberHere_42 (by decide) (fun c_42 => ?_) (fun c_42 => ?_)
      · simp only [fa_lt, fa_le, fa_eq, li_0] at c_42
        refine lv_aload_n hx hb dX12_numberHere_88 rfl (lv_at hl 0 rfl) ?_
        refine lv_iload hx hb dX12_numberHere_89 (lv_at hl 4 rfl) ?_
        refine t_put (ci := 12) (C := RX12) (T := TX12) (N := 38) (v := .int p34_l4) hx hb hts iX12 tyX12 tyX12_ok nmX12 hown hw k_a0 rfl rfl rfl 10 (by decide) (hts _ tw_1135) (fun _ h9 => h9) rfl (tyX12_ok 10 (by decide)) rfl rfl (okV.int rfl (by omega) (by omega)) dX12_numberHere_91 (fun w_4 H locs hw u => ?_)
        have hM := hM.up1 u (by decide)
        have f_a0_X12_1 := u.1 _ _ _ _ f_a0_X12_1 (Or.inr (Or.inr (by decide)))
        have f_a0_X12_10 := u.2.2
        have f_a0_X12_8 := u.1 _ _ _ _ f_a0_X12_8 (Or.inr (Or.inr (by decide)))
        refine lv_aload_n hx hb dX12_numberHere_94 rfl (lv_at hl 0 rfl) ?_
        refine t_getk (ci := 12) (C := RX12) (T := TX12) (N := 38) hx hb hts iX12 hown hw rfl 8 (by decide) (hts _ tw_1133) (fun _ h9 => h9) dX12_numberHere_95 f_a0_X12_8 ?_
        refine lv_iload_n hx hb dX12_numberHere_98 rfl (lv_at hl 3 rfl) ?_
        refine lv_isub hx hb dX12_numberHere_99 ?_
        refine lv_topi (fun v99 e_v99 => ?_)
        have e_v99 : v99.toInt = p34_m_a0_X12_8.toInt - v1n.toInt := sb_i e_v99 rfl rfl (by omega) (by omega)
        refine lv_iconst (v := 5) hx hb dX12_numberHere_100 (by decide) ?_
        have J117 : ∀ (H : Heap) (locs : List Loc) (ls : Array Slot) (w117 : va_W), tW (dC, dI) tys κ B A s w117 H locs → Sm [(12, 8), (12, 9), (12, 10)] [] κ ws w117 → fld w117 a0 12 1 (.int f1) → fld w117 a0 12 10 (.int p34_l4) → fld w117 a0 12 8 (.int p34_m_a0_X12_8) → lv_has ls 5 [(0, .ref a0), (1, .int a1), (2, .int a2), (3, .int v1n), (4, .int p34_l4)] → W p l e (headSpec (ws_u yX12_numberHere cX12_numberHere 5 (some .boolean)) ({ frames := 1, cells := 0, slots := 0, locals := 25 })).room s m ([.ref a0, .int a1, .int a2] : List Value).toArray below meth c H locs 0 0 QQ (F0 m 117 ls []) := by
          intro H locs ls w117 hw hM f_a0_X12_1 f_a0_X12_10 f_a0_X12_8 hl
          refine lv_aload_n hx hb dX12_numberHere_117 rfl (lv_at hl 0 rfl) ?_
          refine lv_iconst (v := 1) hx hb dX12_numberHere_118 (by decide) ?_
          refine lv_iload_n hx hb dX12_numberHere_119 rfl (lv_at hl 3 rfl) ?_
          refine t_calli (va_runV (As := [.int 1, .int v1n]) (rest := []) ⟨hx, hb, hml, hown, hts⟩ (t_X12_fails l dC dI tys κ B w117 hw.2.2.2.2 a0 k_a0 1 (by decide) (by decide) v1n (by omega) (by omega) H.size) (cwV 2 hts (gUV tw_1288 tw_1290 ts_3_7 tw_13 tw_1291) rfl rfl rfl (by decide +kernel) ⟨(Nat.le_of_ble_eq_true rfl), (Nat.le_of_ble_eq_true rfl)⟩) ⟨cPre.blind, t_recv hw (ci := 12) k_a0 rfl rfl, cPre.use hw.2.1 hw.1 hw.2.2.1 hE⟩ rfl rfl hl.1 rfl (lv_room (Nat.le_of_ble_eq_true rfl)) dX12_numberHere_120 ⟨(Nat.le_of_ble_eq_true rfl), (Nat.le_of_ble_eq_true rfl)⟩) hw hA (fun _ _ h => h.2.2.1) (fun v120 w_5 H locs hp hw => ?_)
          obtain ⟨l_v120, h_v120, _, hm⟩ := hp
          have hM := hM.trans hm (by decide) (by decide)
          have f_a0_X12_1 := hm.1 _ _ _ _ f_a0_X12_1 (by decide)
          have f_a0_X12_10 := hm.1 _ _ _ _ f_a0_X12_10 (by decide)
          have f_a0_X12_8 := hm.1 _ _ _ _ f_a0_X12_8 (by decide)
          refine lv_if_eq (tgt := 130) hx hb dX12_numberHere_123 (by decide) (fun c_123 => ?_) (fun c_123 => by exfalso; simp only [fa_lt, fa_le, fa_eq, li_0] at c_123; omega)
          simp only [fa_lt, fa_le, fa_eq, li_0] at c_123
          refine lv_iconst (v := 0) hx hb dX12_numberHere_130 (by decide) ?_
          rw [hQ]
          refine W.widen (k := 0) (n := 0) (Nat.le_refl _) (Nat.le_refl _) ?_
          exact W.zret (v := 0) hx hb hr rfl (fun t ht hW => ⟨⟨0, w_5, rfl, ⟨(by decide), (by decide), hw.2.2.2.2, hM, ⟨p34_m_a0_X12_8, p34_l4, (by omega), (by omega), (by omega), (by omega), f_a0_X12_8, f_a0_X12_10, (by have := li_0; omega)⟩⟩, by rw [ht]; exact hw.2.1, va_K.moved hW.alike hw.1, hw.2.2.1⟩, hw.2.2.2.1.F ht⟩) hw.2.2.2.1.2.2 dX12_numberHere_131
        refine lv_icmp_gt (tgt := 117) hx hb dX12_numberHere_101 (by decide) (fun c_101 => ?_) (fun c_101 => ?_)
        · simp only [fa_lt, fa_le, fa_eq, li_5] at c_101
          exact J117 _ _ _ w_4 hw hM f_a0_X12_1 f_a0_X12_10 f_a0_X12_8 (lv_sub hl [0, 1, 2, 3, 4] rfl)
        · simp only [fa_lt, fa_le, fa_eq, li_5] at c_101
          refine lv_iload hx hb dX12_numberHere_104 (lv_at hl 4 rfl) ?_
          refine lv_i2l hx hb dX12_numberHere_106 rfl ?_
          refine lv_topl (fun v106 e_v106 => ?_)
          have t_v106 : v106.toInt = p34_l4.toInt := by rw [e_v106, Int32.toInt_toInt64]
          refine lv_iload_n hx hb dX12_numberHere_107 rfl (lv_at hl 1 rfl) ?_
          refine lv_i2l hx hb dX12_numberHere_108 rfl ?_
          refine lv_topl (fun v108 e_v108 => ?_)
          have t_v108 : v108.toInt = a1.toInt := by rw [e_v108, Int32.toInt_toInt64]
          refine lv_iload_n hx hb dX12_numberHere_109 rfl (lv_at hl 2 rfl) ?_
          refine lv_i2l hx hb dX12_numberHere_110 rfl ?_
          refine lv_topl (fun v110 e_v110 => ?_)
          have t_v110 : v110.toInt = a2.toInt := by rw [e_v110, Int32.toInt_toInt64]
          refine t_calli (va_runS (As := [.long v106, .long v108, .long v110]) (rest := []) ⟨hx, hb, hml, hown, hts⟩ (t_X12_in l dC dI tys κ B w_4 hw.2.2.2.2 v106 v108 v110 H.size) (va_cwS 3 hts (gUS tw_1316 tw_1317 tw_13 tw_1318) rfl rfl rfl (by decide +kernel) ⟨(Nat.le_of_ble_eq_true rfl), (Nat.le_of_ble_eq_true rfl)⟩) ⟨cPre.blind, cPre.use hw.2.1 hw.1 hw.2.2.1 hE⟩ rfl rfl hl.1 rfl (lv_room (Nat.le_of_ble_eq_true rfl)) dX12_numberHere_111 ⟨(Nat.le_of_ble_eq_true rfl), (Nat.le_of_ble_eq_true rfl)⟩) hw hA (fun _ _ h => h.2.2.1) (fun v111 w_6 H locs hp hw => ?_)
          obtain ⟨l_v111, h_v111, _, hm, x_v111_0⟩ := hp
          have hM := hM.trans hm (by decide) (by decide)
          have f_a0_X12_1 := hm.1 _ _ _ _ f_a0_X12_1 (by decide)
          have f_a0_X12_10 := hm.1 _ _ _ _ f_a0_X12_10 (by decide)
          have f_a0_X12_8 := hm.1 _ _ _ _ f_a0_X12_8 (by decide)
          refine lv_if_ne (tgt := 126) hx hb dX12_numberHere_114 (by decide) (fun c_114 => ?_) (fun c_114 => ?_)
          · simp only [fa_lt, fa_le, fa_eq, li_0] at c_114
            refine lv_iconst (v := 1) hx hb dX12_numberHere_126 (by decide) ?_
            refine lv_goto (tgt := 131) hx hb dX12_numberHere_127 (by decide) ?_
            rw [hQ]
            refine W.widen (k := 0) (n := 0) (Nat.le_refl _) (Nat.le_refl _) ?_
            exact W.zret (v := 1) hx hb hr rfl (fun t ht hW => ⟨⟨1, w_6, rfl, ⟨(by decide), (by decide), hw.2.2.2.2, hM, ⟨p34_m_a0_X12_8, p34_l4, (by omega), (by omega), (by omega), (by omega), f_a0_X12_8, f_a0_X12_10, (by have := li_1; omega)⟩⟩, by rw [ht]; exact hw.2.1, va_K.moved hW.alike hw.1, hw.2.2.1⟩, hw.2.2.2.1.F ht⟩) hw.2.2.2.1.2.2 dX12_numberHere_131
          · simp only [fa_lt, fa_le, fa_eq, li_0] at c_114
            exact J117 _ _ _ w_6 hw hM f_a0_X12_1 f_a0_X12_10 f_a0_X12_8 (lv_sub hl [0, 1, 2, 3, 4] rfl)
      · simp only [fa_lt, fa_le, fa_eq, li_0] at c_42
        refine lv_aload_n hx hb dX12_numberHere_45 rfl (lv_at hl 0 rfl) ?_
        refine t_getk (ci := 12) (C := RX12) (T := TX12) (N := 38) hx hb hts iX12 hown hw rfl 8 (by decide) (hts _ tw_1133) (fun _ h9 => h9) dX12_numberHere_46 f_a0_X12_8 ?_
        refine lv_iload_n hx hb dX12_numberHere_49 rfl (lv_at hl 3 rfl) ?_
        refine lv_isub hx hb dX12_numberHere_50 ?_
        refine lv_topi (fun v50 e_v50 => ?_)
        have e_v50 : v50.toInt = p34_m_a0_X12_8.toInt - v1n.toInt := sb_i e_v50 rfl rfl (by omega) (by omega)
        refine lv_iconst (v := 5) hx hb dX12_numberHere_51 (by decide) ?_
        have J75 : ∀ (H : Heap) (locs : List Loc) (ls : Array Slot) (w75 : va_W) (p75_l4 : Int32), tW (dC, dI) tys κ B A s w75 H locs → Sm [(12, 8), (12, 9), (12, 10)] [] κ ws w75 → (-2147483648) ≤ p75_l4.toInt → p75_l4.toInt ≤ 2147483647 → fld w75 a0 12 1 (.int f1) → fld w75 a0 12 10 (.int f2) → fld w75 a0 12 8 (.int p34_m_a0_X12_8) → lv_has ls 5 [(0, .ref a0), (1, .int a1), (2, .int a2), (3, .int v1n), (4, .int p75_l4)] → W p l e (headSpec (ws_u yX12_numberHere cX12_numberHere 5 (some .boolean)) ({ frames := 1, cells := 0, slots := 0, locals := 25 })).room s m ([.ref a0, .int a1, .int a2] : List Value).toArray below meth c H locs 0 0 QQ (F0 m 75 ls []) := by
          intro H locs ls w75 p75_l4 hw hM l_p75_l4 h_p75_l4 f_a0_X12_1 f_a0_X12_10 f_a0_X12_8 hl
          refine lv_aload_n hx hb dX12_numberHere_75 rfl (lv_at hl 0 rfl) ?_
          refine lv_dup hx hb dX12_numberHere_76 rfl ?_
          refine t_getk (ci := 12) (C := RX12) (T := TX12) (N := 38) hx hb hts iX12 hown hw rfl 8 (by decide) (hts _ tw_1133) (fun _ h9 => h9) dX12_numberHere_77 f_a0_X12_8 ?_
          refine lv_iconst (v := 1) hx hb dX12_numberHere_80 (by decide) ?_
          refine lv_iadd hx hb dX12_numberHere_81 ?_
          refine lv_topi (fun v81 e_v81 => ?_)
          have e_v81 : v81.toInt = p34_m_a0_X12_8.toInt + 1 := ad_i e_v81 rfl li_1 (by omega) (by omega)
          refine t_put (ci := 12) (C := RX12) (T := TX12) (N := 38) (v := .int v81) hx hb hts iX12 tyX12 tyX12_ok nmX12 hown hw k_a0 rfl rfl rfl 8 (by decide) (hts _ tw_1133) (fun _ h9 => h9) rfl (tyX12_ok 8 (by decide)) rfl rfl (okV.int rfl (by omega) (by omega)) dX12_numberHere_82 (fun w_7 H locs hw u => ?_)
          have hM := hM.up1 u (by decide)
          have f_a0_X12_1 := u.1 _ _ _ _ f_a0_X12_1 (Or.inr (Or.inr (by decide)))
          have f_a0_X12_10 := u.1 _ _ _ _ f_a0_X12_10 (Or.inr (Or.inr (by decide)))
          have f_a0_X12_8 := u.2.2
          refine lv_goto (tgt := 34) hx hb dX12_numberHere_85 (by decide) ?_
          exact ih_34 _ _ _ _ (by omega) ⟨w_7, p75_l4, v81, hw, hM, (by omega), (by omega), (by omega), (by omega), f_a0_X12_1, f_a0_X12_10, f_a0_X12_8, (by omega), (by omega), (lv_sub hl [0, 1, 2, 3, 4] rfl), rfl⟩
        refine lv_icmp_ge (tgt := 75) hx hb dX12_numberHere_52 (by decide) (fun c_52 => ?_) (fun c_52 => ?_)
        · simp only [fa_lt, fa_le, fa_eq, li_5] at c_52
          exact J75 _ _ _ w_3 p34_l4 hw hM (by omega) (by omega) f_a0_X12_1 f_a0_X12_10 f_a0_X12_8 (lv_sub hl [0, 1, 2, 3, 4] rfl)
        · simp only [fa_lt, fa_le, fa_eq, li_5] at c_52
          refine lv_bipush (v := 10) hx hb dX12_numberHere_55 (by decide) ?_
          refine lv_iload hx hb dX12_numberHere_57 (lv_at hl 4 rfl) ?_
          refine lv_imul hx hb dX12_numberHere_59 ?_
          refine lv_topi (fun v59 e_v59 => ?_)
          have l_v59 := i32_lo v59
          have h_v59 := i32_hi v59
          refine lv_aload_n hx hb dX12_numberHere_60 rfl (lv_at hl 0 rfl) ?_
          refine t_getr (k1 := 54) (ci := 12) (C := RX12) (T := TX12) (N := 38) hx hb hts iX12 hown hw k_a0 rfl rfl rfl 0 (by decide) (hts _ tw_1125) (fun _ h9 => h9) dX12_numberHere_61 rfl (fun v61 k_v61 f_a0_X12_0 => ?_)
          refine lv_aload_n hx hb dX12_numberHere_64 rfl (lv_at hl 0 rfl) ?_
          refine t_getk (ci := 12) (C := RX12) (T := TX12) (N := 38) hx hb hts iX12 hown hw rfl 8 (by decide) (hts _ tw_1133) (fun _ h9 => h9) dX12_numberHere_65 f_a0_X12_8 ?_
          refine t_bald hx hb hw k_v61 rfl rfl (by omega) (show p34_m_a0_X12_8.toInt < 400 by omega) dX12_numberHere_68 (fun v68 r_v68 s_v68 q_v68 => ?_)
          have l_v68 := i32_lo v68
          have h_v68 := i32_hi v68
          refine lv_iadd hx hb dX12_numberHere_69 ?_
          refine lv_topi (fun v69 e_v69 => ?_)
          have l_v69 := i32_lo v69
          have h_v69 := i32_hi v69
          refine lv_bipush (v := 48) hx hb dX12_numberHere_70 (by decide) ?_
          refine lv_isub hx hb dX12_numberHere_72 ?_
          refine lv_topi (fun v72 e_v72 => ?_)
          have l_v72 := i32_lo v72
          have h_v72 := i32_hi v72
          refine lv_istore (lv' := [(4, .int v72), (0, .ref a0), (1, .int a1), (2, .int a2), (3, .int v1n)]) hx hb dX12_numberHere_73 hl (by decide) rfl (fun ls hl => ?_)
          exact J75 _ _ _ w_3 v72 hw hM (by omega) (by omega) f_a0_X12_1 f_a0_X12_10 f_a0_X12_8 (lv_sub hl [1, 2, 3, 4, 0] rfl)
    exact J34 _ _ _ _ ⟨w_2, 0, v1n, hw, hM, (by decide), (by decide), (by omega), (by omega), f_a0_X12_1, f_a0_X12_10, f_a0_X12_8, (by have := li_0; omega), (by have := li_0; omega), (lv_sub hl [2, 3, 4, 1, 0] rfl), rfl⟩
  · simp only [fa_lt, fa_le, fa_eq, li_0] at c_13
    refine lv_aload_n hx hb dX12_numberHere_16 rfl (lv_at hl 0 rfl) ?_
    refine lv_iconst (v := 0) hx hb dX12_numberHere_17 (by decide) ?_
    refine lv_aload_n hx hb dX12_numberHere_18 rfl (lv_at hl 0 rfl) ?_
    refine t_getk (ci := 12) (C := RX12) (T := TX12) (N := 38) hx hb hts iX12 hown hw rfl 8 (by decide) (hts _ tw_1133) (fun _ h9 => h9) dX12_numberHere_19 f_a0_X12_8 ?_
    refine t_calli (va_runV (As := [.int 0, .int v1n]) (rest := []) ⟨hx, hb, hml, hown, hts⟩ (t_X12_fails l dC dI tys κ B w_2 hw.2.2.2.2 a0 k_a0 0 (by decide) (by decide) v1n (by omega) (by omega) H.size) (cwV 2 hts (gUV tw_1288 tw_1290 ts_3_7 tw_13 tw_1291) rfl rfl rfl (by decide +kernel) ⟨(Nat.le_of_ble_eq_true rfl), (Nat.le_of_ble_eq_true rfl)⟩) ⟨cPre.blind, t_recv hw (ci := 12) k_a0 rfl rfl, cPre.use hw.2.1 hw.1 hw.2.2.1 hE⟩ rfl rfl hl.1 rfl (lv_room (Nat.le_of_ble_eq_true rfl)) dX12_numberHere_22 ⟨(Nat.le_of_ble_eq_true rfl), (Nat.le_of_ble_eq_true rfl)⟩) hw hA (fun _ _ h => h.2.2.1) (fun v22 w_8 H locs hp hw => ?_)
    obtain ⟨l_v22, h_v22, _, hm⟩ := hp
    have hM := hM.trans hm (by decide) (by decide)
    have f_a0_X12_1 := hm.1 _ _ _ _ f_a0_X12_1 (by decide)
    have f_a0_X12_10 := hm.1 _ _ _ _ f_a0_X12_10 (by decide)
    have f_a0_X12_8 := hm.1 _ _ _ _ f_a0_X12_8 (by decide)
    rw [hQ]
    refine W.widen (k := 0) (n := 0) (Nat.le_refl _) (Nat.le_refl _) ?_
    exact W.zret (v := v22) hx hb hr (nb_i (by omega) (by omega)) (fun t ht hW => ⟨⟨v22, w_8, rfl, ⟨(by omega), (by omega), hw.2.2.2.2, hM, ⟨v1n, f2, (by omega), (by omega), (by omega), (by omega), f_a0_X12_8, f_a0_X12_10, (by omega)⟩⟩, by rw [ht]; exact hw.2.1, va_K.moved hW.alike hw.1, hw.2.2.1⟩, hw.2.2.2.1.F ht⟩) hw.2.2.2.1.2.2 dX12_numberHere_25
set_option maxHeartbeats 4000000 in
set_option maxRecDepth 100000 in
theorem t_X12_cellHere (l : Launch) (dC : Nat → ClassId) (dI : Nat → Nat → Nat) (tys : List (ClassId × FieldType)) (κ : tK) (B : Nat) (ws : va_W) (hT : Ty κ tys B ws) (a0 : Nat) (k_a0 : κ a0 = some 12) (a1 : Int32) (l_a1 : 1 ≤ a1.toInt) (h_a1 : a1.toInt ≤ 174) (a2 : Int32) (l_a2 : 0 ≤ a2.toInt) (h_a2 : a2.toInt ≤ 20) (a3 : Int32) (l_a3 : 9 ≤ a3.toInt) (h_a3 : a3.toInt ≤ 99) (f0 : Int32) (l_f0 : 0 ≤ f0.toInt) (h_f0 : f0.toInt ≤ 401) (f_a0_X12_8 : fld ws a0 12 8 (.int f0)) (f1 : Int32) (l_f1 : 0 ≤ f1.toInt) (h_f1 : f1.toInt ≤ 400) (f_a0_X12_1 : fld ws a0 12 1 (.int f1)) (f2 : Nat) (k_f2 : κ f2 = some 59) (f_a0_X12_7 : fld ws a0 12 7 (.ref f2)) (f3 : Int32) (l_f3 : 0 ≤ f3.toInt) (h_f3 : f3.toInt ≤ 1) (f_f2_M_read_0 : elt ws f2 (0 : Int32).toInt.toNat f3) (f4 : Int32) (l_f4 : 0 ≤ f4.toInt) (h_f4 : f4.toInt ≤ 6) (f_f2_M_read_3 : elt ws f2 (3 : Int32).toInt.toNat f4) (f5 : Int32) (l_f5 : 0 ≤ f5.toInt) (h_f5 : f5.toInt ≤ 4) (f_f2_M_read_4 : elt ws f2 (4 : Int32).toInt.toNat f5) (f6 : Int32) (l_f6 : 0 ≤ f6.toInt) (h_f6 : f6.toInt ≤ 6) (f_f2_M_read_5 : elt ws f2 (5 : Int32).toInt.toNat f6) (f7 : Int32) (f_a0_X12_10 : fld ws a0 12 10 (.int f7)) (hX : (a1.toInt ≤ 2 ∨ 52 ≤ a1.toInt)) (sz : Nat) : Met l yX12_cellHere (ws_u yX12_cellHere cX12_cellHere 4 (some .boolean)) ({ frames := 2, cells := 0, slots := 0, locals := 49 }) (va_Pc [.ref a0, .int a1, .int a2, .int a3] (cPre (dC, dI) tys ws sz)) (va_Qi (fun (r : Int32) (w : va_W) => 0 ≤ r.toInt ∧ r.toInt ≤ 1 ∧ Ty κ tys B w ∧ Sm [(12, 8), (12, 9), (12, 10)] [59] κ ws w ∧ elt w f2 (0 : Int32).toInt.toNat f3 ∧ elt w f2 (3 : Int32).toInt.toNat f4 ∧ elt w f2 (4 : Int32).toInt.toNat f5 ∧ elt w f2 (5 : Int32).toInt.toNat f6 ∧ (∃ (xn : Int32) (xm : Int32), 0 ≤ xn.toInt ∧ xn.toInt ≤ 401 ∧ (-2147483648) ≤ xm.toInt ∧ xm.toInt ≤ 2147483647 ∧ fld w a0 12 8 (.int xn) ∧ fld w a0 12 10 (.int xm) ∧ f0.toInt ≤ xn.toInt ∧ (xn.toInt = f0.toInt ∨ xn.toInt ≤ f1.toInt) ∧ (r.toInt = 0 ∨ (a2.toInt ≤ xm.toInt ∧ xm.toInt ≤ a3.toInt)))) (fun w t => cPost (dC, dI) tys w (va_A ws sz) t) (va_A ws sz)) 0 0 (va_A ws sz) := by
  refine Met.ofW (cc := cX12_cellHere) (maxL := 4) (ret := (some .boolean)) (by decide) rfl ?_
  intro p e s m args below meth c s₁ B0 hml hv
  obtain ⟨rfl, hsz, hP, hK, hD0, hE⟩ := hv
  have hx := B0.exec
  have hb := B0.bytes
  have hr := B0.returns
  have hts0 := atoms_spec (ws := ws_u yX12_cellHere cX12_cellHere 4 (some .boolean)) B0.pre
  have hts : ∀ w ∈ gT, w.before _ s = true := fun w h => hts0 w (List.mem_cons_of_mem _ h)
  have hown : s.vm.findClass RX12 = some m.cls := findClass_of_methodNamed B0.named
  have hlocks := B0.notSynchronized
  subst hsz
  have hD := hD0.self (sz := s.heap.size)
  generalize hAe : va_A ws s.heap.size = A at hD ⊢
  have hA : ∀ q : Nat, s.heap.size ≤ q → A q := fun q h => by rw [← hAe]; exact Or.inr h
  have hw : tW (dC, dI) tys κ B A s ws s.heap [] := ⟨hK, hP, hD, va_S.rf, hT⟩
  have hM : Sm [(12, 8), (12, 9), (12, 10)] [59] κ ws ws := Sm.rf
  clear hP hK hD hD0 hts0
  have l_f7 := i32_lo f7
  have h_f7 := i32_hi f7
  have hl := lv_entry ([.ref a0, .int a1, .int a2, .int a3]) (n := 4) (Nat.le_of_ble_eq_true rfl)
  rw [lg_entry_eq]
  generalize (lg_sl ([.ref a0, .int a1, .int a2, .int a3]) ++ List.replicate (4 - (lg_sl ([.ref a0, .int a1, .int a2, .int a3])).length) Slot.unset).toArray = ls at hl ⊢
  have hl : lv_has ls 4 [(0, .ref a0), (1, .int a1), (2, .int a2), (3, .int a3)] := hl
  refine t_start (fun QQ hQ => ?_)
  refine lv_aload_n hx hb dX12_cellHere_0 rfl (lv_at hl 0 rfl) ?_
  refine lv_iload_n hx hb dX12_cellHere_1 rfl (lv_at hl 2 rfl) ?_
  refine lv_iload_n hx hb dX12_cellHere_2 rfl (lv_at hl 3 rfl) ?_
  refine t_calli (va_runV (As := [.int a2, .int a3]) (rest := []) ⟨hx, hb, hml, hown, hts⟩ (t_X12_numberHere l dC dI tys κ B ws hw.2.2.2.2 a0 k_a0 a2 (by omega) (by omega) a3 (by omega) (by omega) f0 (by omega) (by omega) f_a0_X12_8 f1 (by omega) (by omega) f_a0_X12_1 f7 f_a0_X12_10 s.heap.size) (cwV 2 hts (gUV tw_1308 tw_1310 ts_3_12 tw_13 tw_1311) rfl rfl rfl (by decide +kernel) ⟨(Nat.le_of_ble_eq_true rfl), (Nat.le_of_ble_eq_true rfl)⟩) ⟨cPre.blind, t_recv hw (ci := 12) k_a0 rfl rfl, cPre.use hw.2.1 hw.1 hw.2.2.1 hE⟩ rfl rfl hl.1 rfl (lv_room (Nat.le_of_ble_eq_true rfl)) dX12_cellHere_3 ⟨(Nat.le_of_ble_eq_true rfl), (Nat.le_of_ble_eq_true rfl)⟩) hw hA (fun _ _ h => h.2.2.1) (fun v3 w_1 H locs hp hw => ?_)
  obtain ⟨l_v3, h_v3, _, hm, ⟨v3n, v3m, l_v3n, h_v3n, l_v3m, h_v3m, f_a0_X12_8, f_a0_X12_10, y_v3⟩⟩ := hp
  have hM := hM.trans hm (by decide) (by decide)
  have f_a0_X12_1 := hm.1 _ _ _ _ f_a0_X12_1 (by decide)
  have f_a0_X12_7 := hm.1 _ _ _ _ f_a0_X12_7 (by decide)
  have f_f2_M_read_0 := hm.elt k_f2 (by decide) f_f2_M_read_0
  have f_f2_M_read_3 := hm.elt k_f2 (by decide) f_f2_M_read_3
  have f_f2_M_read_4 := hm.elt k_f2 (by decide) f_f2_M_read_4
  have f_f2_M_read_5 := hm.elt k_f2 (by decide) f_f2_M_read_5
  refine lv_if_ne (tgt := 11) hx hb dX12_cellHere_6 (by decide) (fun c_6 => ?_) (fun c_6 => ?_)
  · simp only [fa_lt, fa_le, fa_eq, li_0] at c_6
    refine lv_aload_n hx hb dX12_cellHere_11 rfl (lv_at hl 0 rfl) ?_
    refine t_getk (ci := 12) (C := RX12) (T := TX12) (N := 38) hx hb hts iX12 hown hw rfl 7 (by decide) (hts _ tw_1132) (fun _ h9 => h9) dX12_cellHere_12 f_a0_X12_7 ?_
    refine lv_iload_n hx hb dX12_cellHere_15 rfl (lv_at hl 1 rfl) ?_
    refine lv_aload_n hx hb dX12_cellHere_16 rfl (lv_at hl 0 rfl) ?_
    refine t_getk (ci := 12) (C := RX12) (T := TX12) (N := 38) hx hb hts iX12 hown hw rfl 10 (by decide) (hts _ tw_1135) (fun _ h9 => h9) dX12_cellHere_17 f_a0_X12_10 ?_
    refine t_iast hx hb hw k_f2 rfl rfl (by omega) (show a1.toInt < 285 by omega) (by rw [fr_59 (by omega) (by omega)]; exact i32_lo _) (by rw [fr_59 (by omega) (by omega)]; exact i32_hi _) dX12_cellHere_20 (fun w_2 H locs hw u => ?_)
    have hM := hM.up3 u k_f2 (by decide)
    have f_a0_X12_1 := u.1 _ _ _ _ f_a0_X12_1
    have f_a0_X12_7 := u.1 _ _ _ _ f_a0_X12_7
    have f_f2_M_read_0 := u.2.2.1 _ _ _ f_f2_M_read_0 (Or.inr (by rw [show (0 : Int32).toInt.toNat = 0 by decide]; omega))
    have f_f2_M_read_3 := u.2.2.1 _ _ _ f_f2_M_read_3 (Or.inr (by rw [show (3 : Int32).toInt.toNat = 3 by decide]; omega))
    have f_f2_M_read_4 := u.2.2.1 _ _ _ f_f2_M_read_4 (Or.inr (by rw [show (4 : Int32).toInt.toNat = 4 by decide]; omega))
    have f_f2_M_read_5 := u.2.2.1 _ _ _ f_f2_M_read_5 (Or.inr (by rw [show (5 : Int32).toInt.toNat = 5 by decide]; omega))
    have f_a0_X12_8 := u.1 _ _ _ _ f_a0_X12_8
    have f_a0_X12_10 := u.1 _ _ _ _ f_a0_X12_10
    refine lv_iconst (v := 1) hx hb dX12_cellHere_21 (by decide) ?_
    rw [hQ]
    refine W.widen (k := 0) (n := 0) (Nat.le_refl _) (Nat.le_refl _) ?_
    exact W.zret (v := 1) hx hb hr rfl (fun t ht hW => ⟨⟨1, w_2, rfl, ⟨(by decide), (by decide), hw.2.2.2.2, hM, f_f2_M_read_0, f_f2_M_read_3, f_f2_M_read_4, f_f2_M_read_5, ⟨v3n, v3m, (by omega), (by omega), (by omega), (by omega), f_a0_X12_8, f_a0_X12_10, (by have := li_1; omega)⟩⟩, by rw [ht]; exact hw.2.1, va_K.moved hW.alike hw.1, hw.2.2.1⟩, hw.2.2.2.1.F ht⟩) hw.2.2.2.1.2.2 dX12_cellHere_22
  · simp only [fa_lt, fa_le, fa_eq, li_0] at c_6
    refine lv_iconst (v := 0) hx hb dX12_cellHere_9 (by decide) ?_
    rw [hQ]
    refine W.widen (k := 0) (n := 0) (Nat.le_refl _) (Nat.le_refl _) ?_
    exact W.zret (v := 0) hx hb hr rfl (fun t ht hW => ⟨⟨0, w_1, rfl, ⟨(by decide), (by decide), hw.2.2.2.2, hM, f_f2_M_read_0, f_f2_M_read_3, f_f2_M_read_4, f_f2_M_read_5, ⟨v3n, v3m, (by omega), (by omega), (by omega), (by omega), f_a0_X12_8, f_a0_X12_10, (by have := li_0; omega)⟩⟩, by rw [ht]; exact hw.2.1, va_K.moved hW.alike hw.1, hw.2.2.1⟩, hw.2.2.2.1.F ht⟩) hw.2.2.2.1.2.2 dX12_cellHere_10
set_option maxHeartbeats 4000000 in
set_option maxRecDepth 100000 in
theorem t_X12_isLetter (l : Launch) (dC : Nat → ClassId) (dI : Nat → Nat → Nat) (tys : List (ClassId × FieldType)) (κ : tK) (B : Nat) (ws : va_W) (hT : Ty κ tys B ws) (a0 : Nat) (k_a0 : κ a0 = some 12) (a1 : Int32) (l_a1 : 0 ≤ a1.toInt) (h_a1 : a1.toInt ≤ 800) (f0 : Int32) (l_f0 : 0 ≤ f0.toInt) (h_f0 : f0.toInt ≤ 400) (f_a0_X12_1 : fld ws a0 12 1 (.int f0)) (sz : Nat) : Met l yX12_isLetter (ws_u yX12_isLetter cX12_isLetter 2 (some .boolean)) ({ frames := 0, cells := 0, slots := 0, locals := 0 }) (va_Pc [.ref a0, .int a1] (cPre (dC, dI) tys ws sz)) (va_Qi (fun (r : Int32) (w : va_W) => 0 ≤ r.toInt ∧ r.toInt ≤ 1 ∧ Ty κ tys B w ∧ Sm [] [] κ ws w ∧ (r.toInt = 0 ∨ a1.toInt ≤ 399) ∧ (r.toInt = 0 ∨ a1.toInt < f0.toInt)) (fun w t => cPost (dC, dI) tys w (va_A ws sz) t) (va_A ws sz)) 0 0 (va_A ws sz) := by
  refine Met.ofW (cc := cX12_isLetter) (maxL := 2) (ret := (some .boolean)) (by decide) rfl ?_
  intro p e s m args below meth c s₁ B0 hml hv
  obtain ⟨rfl, hsz, hP, hK, hD0, hE⟩ := hv
  have hx := B0.exec
  have hb := B0.bytes
  have hr := B0.returns
  have hts0 := atoms_spec (ws := ws_u yX12_isLetter cX12_isLetter 2 (some .boolean)) B0.pre
  have hts : ∀ w ∈ gT, w.before _ s = true := fun w h => hts0 w (List.mem_cons_of_mem _ h)
  have hown : s.vm.findClass RX12 = some m.cls := findClass_of_methodNamed B0.named
  have hlocks := B0.notSynchronized
  subst hsz
  have hD := hD0.self (sz := s.heap.size)
  generalize hAe : va_A ws s.heap.size = A at hD ⊢
  have hA : ∀ q : Nat, s.heap.size ≤ q → A q := fun q h => by rw [← hAe]; exact Or.inr h
  have hw : tW (dC, dI) tys κ B A s ws s.heap [] := ⟨hK, hP, hD, va_S.rf, hT⟩
  have hM : Sm [] [] κ ws ws := Sm.rf
  clear hP hK hD hD0 hts0
  have hl := lv_entry ([.ref a0, .int a1]) (n := 2) (Nat.le_of_ble_eq_true rfl)
  rw [lg_entry_eq]
  generalize (lg_sl ([.ref a0, .int a1]) ++ List.replicate (2 - (lg_sl ([.ref a0, .int a1])).length) Slot.unset).toArray = ls at hl ⊢
  have hl : lv_has ls 2 [(0, .ref a0), (1, .int a1)] := hl
  refine t_start (fun QQ hQ => ?_)
  refine lv_iload_n hx hb dX12_isLetter_0 rfl (lv_at hl 1 rfl) ?_
  refine lv_aload_n hx hb dX12_isLetter_1 rfl (lv_at hl 0 rfl) ?_
  refine t_getk (ci := 12) (C := RX12) (T := TX12) (N := 38) hx hb hts iX12 hown hw rfl 1 (by decide) (hts _ tw_1126) (fun _ h9 => h9) dX12_isLetter_2 f_a0_X12_1 ?_
  refine lv_icmp_ge (tgt := 34) hx hb dX12_isLetter_5 (by decide) (fun c_5 => ?_) (fun c_5 => ?_)
  · simp only [fa_lt, fa_le, fa_eq] at c_5
    refine lv_iconst (v := 0) hx hb dX12_isLetter_34 (by decide) ?_
    rw [hQ]
    refine W.widen (k := 0) (n := 0) (Nat.le_refl _) (Nat.le_refl _) ?_
    exact W.zret (v := 0) hx hb hr rfl (fun t ht hW => ⟨⟨0, ws, rfl, ⟨(by decide), (by decide), hw.2.2.2.2, hM, (by have := li_0; omega), (by have := li_0; omega)⟩, by rw [ht]; exact hw.2.1, va_K.moved hW.alike hw.1, hw.2.2.1⟩, hw.2.2.2.1.F ht⟩) hw.2.2.2.1.2.2 dX12_isLetter_35
  · simp only [fa_lt, fa_le, fa_eq] at c_5
    refine lv_aload_n hx hb dX12_isLetter_8 rfl (lv_at hl 0 rfl) ?_
    refine t_getr (k1 := 54) (ci := 12) (C := RX12) (T := TX12) (N := 38) hx hb hts iX12 hown hw k_a0 rfl rfl rfl 0 (by decide) (hts _ tw_1125) (fun _ h9 => h9) dX12_isLetter_9 rfl (fun v9 k_v9 f_a0_X12_0 => ?_)
    refine lv_iload_n hx hb dX12_isLetter_12 rfl (lv_at hl 1 rfl) ?_
    refine t_bald hx hb hw k_v9 rfl rfl (by omega) (show a1.toInt < 400 by omega) dX12_isLetter_13 (fun v13 r_v13 s_v13 q_v13 => ?_)
    have l_v13 := i32_lo v13
    have h_v13 := i32_hi v13
    refine lv_bipush (v := 97) hx hb dX12_isLetter_14 (by decide) ?_
    refine lv_icmp_lt (tgt := 34) hx hb dX12_isLetter_16 (by decide) (fun c_16 => ?_) (fun c_16 => ?_)
    · simp only [fa_lt, fa_le, fa_eq, li_97] at c_16
      refine lv_iconst (v := 0) hx hb dX12_isLetter_34 (by decide) ?_
      rw [hQ]
      refine W.widen (k := 0) (n := 0) (Nat.le_refl _) (Nat.le_refl _) ?_
      exact W.zret (v := 0) hx hb hr rfl (fun t ht hW => ⟨⟨0, ws, rfl, ⟨(by decide), (by decide), hw.2.2.2.2, hM, (by have := li_0; omega), (by have := li_0; omega)⟩, by rw [ht]; exact hw.2.1, va_K.moved hW.alike hw.1, hw.2.2.1⟩, hw.2.2.2.1.F ht⟩) hw.2.2.2.1.2.2 dX12_isLetter_35
    · simp only [fa_lt, fa_le, fa_eq, li_97] at c_16
      refine lv_aload_n hx hb dX12_isLetter_19 rfl (lv_at hl 0 rfl) ?_
      refine t_getk (ci := 12) (C := RX12) (T := TX12) (N := 38) hx hb hts iX12 hown hw rfl 0 (by decide) (hts _ tw_1125) (fun _ h9 => h9) dX12_isLetter_20 f_a0_X12_0 ?_
      refine lv_iload_n hx hb dX12_isLetter_23 rfl (lv_at hl 1 rfl) ?_
      refine t_bald hx hb hw k_v9 rfl rfl (by omega) (show a1.toInt < 400 by omega) dX12_isLetter_24 (fun v24 r_v24 s_v24 q_v24 => ?_)
      have l_v24 := i32_lo v24
      have h_v24 := i32_hi v24
      refine lv_bipush (v := 122) hx hb dX12_isLetter_25 (by decide) ?_
      refine lv_icmp_gt (tgt := 34) hx hb dX12_isLetter_27 (by decide) (fun c_27 => ?_) (fun c_27 => ?_)
      · simp only [fa_lt, fa_le, fa_eq, li_122] at c_27
        refine lv_iconst (v := 0) hx hb dX12_isLetter_34 (by decide) ?_
        rw [hQ]
        refine W.widen (k := 0) (n := 0) (Nat.le_refl _) (Nat.le_refl _) ?_
        exact W.zret (v := 0) hx hb hr rfl (fun t ht hW => ⟨⟨0, ws, rfl, ⟨(by decide), (by decide), hw.2.2.2.2, hM, (by have := li_0; omega), (by have := li_0; omega)⟩, by rw [ht]; exact hw.2.1, va_K.moved hW.alike hw.1, hw.2.2.1⟩, hw.2.2.2.1.F ht⟩) hw.2.2.2.1.2.2 dX12_isLetter_35
      · simp only [fa_lt, fa_le, fa_eq, li_122] at c_27
        refine lv_iconst (v := 1) hx hb dX12_isLetter_30 (by decide) ?_
        refine lv_goto (tgt := 35) hx hb dX12_isLetter_31 (by decide) ?_
        rw [hQ]
        refine W.widen (k := 0) (n := 0) (Nat.le_refl _) (Nat.le_refl _) ?_
        exact W.zret (v := 1) hx hb hr rfl (fun t ht hW => ⟨⟨1, ws, rfl, ⟨(by decide), (by decide), hw.2.2.2.2, hM, (by have := li_1; omega), (by have := li_1; omega)⟩, by rw [ht]; exact hw.2.1, va_K.moved hW.alike hw.1, hw.2.2.1⟩, hw.2.2.2.1.F ht⟩) hw.2.2.2.1.2.2 dX12_isLetter_35
set_option maxHeartbeats 4000000 in
set_option maxRecDepth 100000 in
theorem t_X12_passWord (l : Launch) (dC : Nat → ClassId) (dI : Nat → Nat → Nat) (tys : List (ClassId × FieldType)) (κ : tK) (B : Nat) (ws : va_W) (hT : Ty κ tys B ws) (a0 : Nat) (k_a0 : κ a0 = some 12) (f0 : Int32) (l_f0 : 0 ≤ f0.toInt) (h_f0 : f0.toInt ≤ 401) (f_a0_X12_8 : fld ws a0 12 8 (.int f0)) (f1 : Int32) (l_f1 : 0 ≤ f1.toInt) (h_f1 : f1.toInt ≤ 400) (f_a0_X12_1 : fld ws a0 12 1 (.int f1)) (sz : Nat) : Met l yX12_passWord (ws_u yX12_passWord cX12_passWord 1 none) ({ frames := 1, cells := 0, slots := 0, locals := 21 }) (va_Pc [.ref a0] (cPre (dC, dI) tys ws sz)) (va_Qv (fun (w : va_W) => Ty κ tys B w ∧ Sm [(12, 8)] [] κ ws w ∧ (∃ (xn : Int32), 0 ≤ xn.toInt ∧ xn.toInt ≤ 401 ∧ fld w a0 12 8 (.int xn) ∧ f0.toInt ≤ xn.toInt ∧ (xn.toInt = f0.toInt ∨ xn.toInt ≤ f1.toInt))) (fun w t => cPost (dC, dI) tys w (va_A ws sz) t) (va_A ws sz)) 0 0 (va_A ws sz) := by
  refine Met.ofW (cc := cX12_passWord) (maxL := 1) (ret := none) (by decide) rfl ?_
  intro p e s m args below meth c s₁ B0 hml hv
  obtain ⟨rfl, hsz, hP, hK, hD0, hE⟩ := hv
  have hx := B0.exec
  have hb := B0.bytes
  have hr := B0.returns
  have hts0 := atoms_spec (ws := ws_u yX12_passWord cX12_passWord 1 none) B0.pre
  have hts : ∀ w ∈ gT, w.before _ s = true := fun w h => hts0 w (List.mem_cons_of_mem _ h)
  have hown : s.vm.findClass RX12 = some m.cls := findClass_of_methodNamed B0.named
  have hlocks := B0.notSynchronized
  subst hsz
  have hD := hD0.self (sz := s.heap.size)
  generalize hAe : va_A ws s.heap.size = A at hD ⊢
  have hA : ∀ q : Nat, s.heap.size ≤ q → A q := fun q h => by rw [← hAe]; exact Or.inr h
  have hw : tW (dC, dI) tys κ B A s ws s.heap [] := ⟨hK, hP, hD, va_S.rf, hT⟩
  have hM : Sm [(12, 8)] [] κ ws ws := Sm.rf
  clear hP hK hD hD0 hts0
  have hl := lv_entry ([.ref a0]) (n := 1) (Nat.le_of_ble_eq_true rfl)
  rw [lg_entry_eq]
  generalize (lg_sl ([.ref a0]) ++ List.replicate (1 - (lg_sl ([.ref a0])).length) Slot.unset).toArray = ls at hl ⊢
  have hl : lv_has ls 1 [(0, .ref a0)] := hl
  refine t_start (fun QQ hQ => ?_)
  have J0 : ∀ (n : Nat) (H : Heap) (locs : List Loc) (ls : Array Slot), (∃ (w0 : va_W) (p0_m_a0_X12_8 : Int32), tW (dC, dI) tys κ B A s w0 H locs ∧ Sm [(12, 8)] [] κ ws w0 ∧ 0 ≤ p0_m_a0_X12_8.toInt ∧ p0_m_a0_X12_8.toInt ≤ 401 ∧ fld w0 a0 12 1 (.int f1) ∧ fld w0 a0 12 8 (.int p0_m_a0_X12_8) ∧ f0.toInt ≤ p0_m_a0_X12_8.toInt ∧ (p0_m_a0_X12_8.toInt = f0.toInt ∨ p0_m_a0_X12_8.toInt ≤ f1.toInt) ∧ lv_has ls 1 [(0, .ref a0)] ∧ (401 - p0_m_a0_X12_8.toInt).toNat = n) → W p l e (headSpec (ws_u yX12_passWord cX12_passWord 1 none) ({ frames := 1, cells := 0, slots := 0, locals := 21 })).room s m ([.ref a0] : List Value).toArray below meth c H locs 0 0 QQ (F0 m 0 ls []) := by
    refine loopT _ ?_
    intro n_0 H locs ls hI ih_0
    obtain ⟨w0, p0_m_a0_X12_8, hw, hM, l_p0_m_a0_X12_8, h_p0_m_a0_X12_8, f_a0_X12_1, f_a0_X12_8, li_0_0, li_0_1, hl, hn_0⟩ := hI
    refine lv_aload_n hx hb dX12_passWord_0 rfl (lv_at hl 0 rfl) ?_
    refine lv_aload_n hx hb dX12_passWord_1 rfl (lv_at hl 0 rfl) ?_
    refine t_getk (ci := 12) (C := RX12) (T := TX12) (N := 38) hx hb hts iX12 hown hw rfl 8 (by decide) (hts _ tw_1133) (fun _ h9 => h9) dX12_passWord_2 f_a0_X12_8 ?_
    refine t_calli (va_runV (As := [.int p0_m_a0_X12_8]) (rest := []) ⟨hx, hb, hml, hown, hts⟩ (t_X12_isLetter l dC dI tys κ B w0 hw.2.2.2.2 a0 k_a0 p0_m_a0_X12_8 (by omega) (by omega) f1 (by omega) (by omega) f_a0_X12_1 H.size) (cwV 1 hts (gUV tw_1277 tw_1279 ts_3_6 tw_13 tw_1280) rfl rfl rfl (by decide +kernel) ⟨(Nat.le_of_ble_eq_true rfl), (Nat.le_of_ble_eq_true rfl)⟩) ⟨cPre.blind, t_recv hw (ci := 12) k_a0 rfl rfl, cPre.use hw.2.1 hw.1 hw.2.2.1 hE⟩ rfl rfl hl.1 rfl (lv_room (Nat.le_of_ble_eq_true rfl)) dX12_passWord_5 ⟨(Nat.le_of_ble_eq_true rfl), (Nat.le_of_ble_eq_true rfl)⟩) hw hA (fun _ _ h => h.2.2.1) (fun v5 w_1 H locs hp hw => ?_)
    obtain ⟨l_v5, h_v5, _, hm, x_v5_0, x_v5_1⟩ := hp
    have hM := hM.trans hm (by decide) (by decide)
    have f_a0_X12_1 := hm.1 _ _ _ _ f_a0_X12_1 (by decide)
    have f_a0_X12_8 := hm.1 _ _ _ _ f_a0_X12_8 (by decide)
    refine lv_if_eq (tgt := 24) hx hb dX12_passWord_8 (by decide) (fun c_8 => ?_) (fun c_8 => ?_)
    · simp only [fa_lt, fa_le, fa_eq, li_0] at c_8
      rw [hQ]
      refine W.widen (k := 0) (n := 0) (Nat.le_refl _) (Nat.le_refl _) ?_
      exact W.vret hx hb hr (fun t ht hW => ⟨⟨w_1, rfl, ⟨hw.2.2.2.2, hM, ⟨p0_m_a0_X12_8, (by omega), (by omega), f_a0_X12_8, (by omega)⟩⟩, by rw [ht]; exact hw.2.1, va_K.moved hW.alike hw.1, hw.2.2.1⟩, hw.2.2.2.1.F ht⟩) hw.2.2.2.1.2.2 dX12_passWord_24
    · simp only [fa_lt, fa_le, fa_eq, li_0] at c_8
      refine lv_aload_n hx hb dX12_passWord_11 rfl (lv_at hl 0 rfl) ?_
      refine lv_dup hx hb dX12_passWord_12 rfl ?_
      refine t_getk (ci := 12) (C := RX12) (T := TX12) (N := 38) hx hb hts iX12 hown hw rfl 8 (by decide) (hts _ tw_1133) (fun _ h9 => h9) dX12_passWord_13 f_a0_X12_8 ?_
      refine lv_iconst (v := 1) hx hb dX12_passWord_16 (by decide) ?_
      refine lv_iadd hx hb dX12_passWord_17 ?_
      refine lv_topi (fun v17 e_v17 => ?_)
      have e_v17 : v17.toInt = p0_m_a0_X12_8.toInt + 1 := ad_i e_v17 rfl li_1 (by omega) (by omega)
      refine t_put (ci := 12) (C := RX12) (T := TX12) (N := 38) (v := .int v17) hx hb hts iX12 tyX12 tyX12_ok nmX12 hown hw k_a0 rfl rfl rfl 8 (by decide) (hts _ tw_1133) (fun _ h9 => h9) rfl (tyX12_ok 8 (by decide)) rfl rfl (okV.int rfl (by omega) (by omega)) dX12_passWord_18 (fun w_2 H locs hw u => ?_)
      have hM := hM.up1 u (by decide)
      have f_a0_X12_1 := u.1 _ _ _ _ f_a0_X12_1 (Or.inr (Or.inr (by decide)))
      have f_a0_X12_8 := u.2.2
      refine lv_goto (tgt := 0) hx hb dX12_passWord_21 (by decide) ?_
      exact ih_0 _ _ _ _ (by omega) ⟨w_2, v17, hw, hM, (by omega), (by omega), f_a0_X12_1, f_a0_X12_8, (by omega), (by omega), (lv_sub hl [0] rfl), rfl⟩
  exact J0 _ _ _ _ ⟨ws, f0, hw, hM, (by omega), (by omega), f_a0_X12_1, f_a0_X12_8, (by omega), (by omega), (lv_sub hl [0] rfl), rfl⟩
set_option maxHeartbeats 4000000 in
set_option maxRecDepth 100000 in
theorem t_X12_areLikesHere (l : Launch) (dC : Nat → ClassId) (dI : Nat → Nat → Nat) (tys : List (ClassId × FieldType)) (κ : tK) (B : Nat) (ws : va_W) (hT : Ty κ tys B ws) (a0 : Nat) (k_a0 : κ a0 = some 12) (sz : Nat) : Met l yX12_areLikesHere (ws_u yX12_areLikesHere cX12_areLikesHere 2 (some .boolean)) ({ frames := 3, cells := 0, slots := 0, locals := 72 }) (va_Pc [.ref a0] (cPre (dC, dI) tys ws sz)) (va_Qi (fun (r : Int32) (w : va_W) => 0 ≤ r.toInt ∧ r.toInt ≤ 1 ∧ Ty κ tys B w ∧ Sm [(12, 8), (12, 9), (12, 10)] [59] κ ws w) (fun w t => cPost (dC, dI) tys w (va_A ws sz) t) (va_A ws sz)) 0 0 (va_A ws sz) := by
  refine Met.ofW (cc := cX12_areLikesHere) (maxL := 2) (ret := (some .boolean)) (by decide) rfl ?_
  intro p e s m args below meth c s₁ B0 hml hv
  obtain ⟨rfl, hsz, hP, hK, hD0, hE⟩ := hv
  have hx := B0.exec
  have hb := B0.bytes
  have hr := B0.returns
  have hts0 := atoms_spec (ws := ws_u yX12_areLikesHere cX12_areLikesHere 2 (some .boolean)) B0.pre
  have hts : ∀ w ∈ gT, w.before _ s = true := fun w h => hts0 w (List.mem_cons_of_mem _ h)
  have hown : s.vm.findClass RX12 = some m.cls := findClass_of_methodNamed B0.named
  have hlocks := B0.notSynchronized
  subst hsz
  have hD := hD0.self (sz := s.heap.size)
  generalize hAe : va_A ws s.heap.size = A at hD ⊢
  have hA : ∀ q : Nat, s.heap.size ≤ q → A q := fun q h => by rw [← hAe]; exact Or.inr h
  have hw : tW (dC, dI) tys κ B A s ws s.heap [] := ⟨hK, hP, hD, va_S.rf, hT⟩
  have hM : Sm [(12, 8), (12, 9), (12, 10)] [59] κ ws ws := Sm.rf
  clear hP hK hD hD0 hts0
  have hl := lv_entry ([.ref a0]) (n := 2) (Nat.le_of_ble_eq_true rfl)
  rw [lg_entry_eq]
  generalize (lg_sl ([.ref a0]) ++ List.replicate (2 - (lg_sl ([.ref a0])).length) Slot.unset).toArray = ls at hl ⊢
  have hl : lv_has ls 2 [(0, .ref a0)] := hl
  refine t_start (fun QQ hQ => ?_)
  refine lv_aload_n hx hb dX12_areLikesHere_0 rfl (lv_at hl 0 rfl) ?_
  obtain ⟨u_v1q0, q_v1q0, f_a0_X12_8⟩ := t_peek (k := 8) hw.2.2.2.2 k_a0 rfl (by decide)
  obtain ⟨v1q0, rfl, l_v1q0, h_v1q0⟩ := q_v1q0.geti (lo := 0) (hi := 401) rfl
  obtain ⟨u_v1q1, q_v1q1, f_a0_X12_1⟩ := t_peek (k := 1) hw.2.2.2.2 k_a0 rfl (by decide)
  obtain ⟨v1q1, rfl, l_v1q1, h_v1q1⟩ := q_v1q1.geti (lo := 0) (hi := 400) rfl
  refine t_callv (va_runV (As := []) (rest := []) ⟨hx, hb, hml, hown, hts⟩ (t_X12_passWord l dC dI tys κ B ws hw.2.2.2.2 a0 k_a0 v1q0 (by omega) (by omega) f_a0_X12_8 v1q1 (by omega) (by omega) f_a0_X12_1 s.heap.size) (cwV 0 hts (gUV tw_1300 tw_1302 ts_3_10 tw_13 tw_1303) rfl rfl rfl (by decide +kernel) ⟨(Nat.le_of_ble_eq_true rfl), (Nat.le_of_ble_eq_true rfl)⟩) ⟨cPre.blind, t_recv hw (ci := 12) k_a0 rfl rfl, cPre.use hw.2.1 hw.1 hw.2.2.1 hE⟩ rfl rfl hl.1 rfl (lv_room (Nat.le_of_ble_eq_true rfl)) dX12_areLikesHere_1 ⟨(Nat.le_of_ble_eq_true rfl), (Nat.le_of_ble_eq_true rfl)⟩) hw hA (fun _ h => h.1) (fun w_1 H locs hp hw => ?_)
  obtain ⟨_, hm, ⟨v1n, l_v1n, h_v1n, f_a0_X12_8, y_v1⟩⟩ := hp
  have hM := hM.trans hm (by decide) (by decide)
  have f_a0_X12_1 := hm.1 _ _ _ _ f_a0_X12_1 (by decide)
  refine lv_aload_n hx hb dX12_areLikesHere_4 rfl (lv_at hl 0 rfl) ?_
  refine lv_iconst (v := 0) hx hb dX12_areLikesHere_5 (by decide) ?_
  refine lv_aload_n hx hb dX12_areLikesHere_6 rfl (lv_at hl 0 rfl) ?_
  refine t_getr (k1 := 59) (ci := 12) (C := RX12) (T := TX12) (N := 38) hx hb hts iX12 hown hw k_a0 rfl rfl rfl 7 (by decide) (hts _ tw_1132) (fun _ h9 => h9) dX12_areLikesHere_7 rfl (fun v7 k_v7 f_a0_X12_7 => ?_)
  refine lv_iconst (v := 3) hx hb dX12_areLikesHere_10 (by decide) ?_
  refine t_iald hx hb hw k_v7 rfl rfl (by decide) (by decide) dX12_areLikesHere_11 (fun v11 r_v11 s_v11 f_v7_M_read_3 => ?_)
  have l_v11 : 0 ≤ v11.toInt := by rw [iv_59_3] at r_v11; exact r_v11
  have h_v11 : v11.toInt ≤ 6 := by rw [iv_59_3] at s_v11; exact s_v11
  refine lv_iconst (v := 1) hx hb dX12_areLikesHere_12 (by decide) ?_
  refine lv_isub hx hb dX12_areLikesHere_13 ?_
  refine lv_topi (fun v13 e_v13 => ?_)
  have e_v13 : v13.toInt = v11.toInt - 1 := sb_i e_v13 rfl li_1 (by omega) (by omega)
  obtain ⟨u_v14q2, q_v14q2, f_a0_X12_10⟩ := t_peek (k := 10) hw.2.2.2.2 k_a0 rfl (by decide)
  obtain ⟨v14q2, rfl, l_v14q2, h_v14q2⟩ := q_v14q2.geti (lo := (-2147483648)) (hi := 2147483647) rfl
  refine t_calli (va_runV (As := [.int 0, .int v13]) (rest := []) ⟨hx, hb, hml, hown, hts⟩ (t_X12_numberHere l dC dI tys κ B w_1 hw.2.2.2.2 a0 k_a0 0 (by decide) (by decide) v13 (by omega) (by omega) v1n (by omega) (by omega) f_a0_X12_8 v1q1 (by omega) (by omega) f_a0_X12_1 v14q2 f_a0_X12_10 H.size) (cwV 2 hts (gUV tw_1308 tw_1310 ts_3_12 tw_13 tw_1311) rfl rfl rfl (by decide +kernel) ⟨(Nat.le_of_ble_eq_true rfl), (Nat.le_of_ble_eq_true rfl)⟩) ⟨cPre.blind, t_recv hw (ci := 12) k_a0 rfl rfl, cPre.use hw.2.1 hw.1 hw.2.2.1 hE⟩ rfl rfl hl.1 rfl (lv_room (Nat.le_of_ble_eq_true rfl)) dX12_areLikesHere_14 ⟨(Nat.le_of_ble_eq_true rfl), (Nat.le_of_ble_eq_true rfl)⟩) hw hA (fun _ _ h => h.2.2.1) (fun v14 w_2 H locs hp hw => ?_)
  obtain ⟨l_v14, h_v14, _, hm, ⟨v14n, v14m, l_v14n, h_v14n, l_v14m, h_v14m, f_a0_X12_8, f_a0_X12_10, y_v14⟩⟩ := hp
  have zc_0 := li_0
  have hM := hM.trans hm (by decide) (by decide)
  have f_a0_X12_1 := hm.1 _ _ _ _ f_a0_X12_1 (by decide)
  have f_a0_X12_7 := hm.1 _ _ _ _ f_a0_X12_7 (by decide)
  have f_v7_M_read_3 := hm.elt k_v7 (by decide) f_v7_M_read_3
  refine lv_if_ne (tgt := 22) hx hb dX12_areLikesHere_17 (by decide) (fun c_17 => ?_) (fun c_17 => ?_)
  · simp only [fa_lt, fa_le, fa_eq, li_0] at c_17
    refine lv_bipush (v := 6) hx hb dX12_areLikesHere_22 (by decide) ?_
    refine lv_aload_n hx hb dX12_areLikesHere_24 rfl (lv_at hl 0 rfl) ?_
    refine t_getk (ci := 12) (C := RX12) (T := TX12) (N := 38) hx hb hts iX12 hown hw rfl 10 (by decide) (hts _ tw_1135) (fun _ h9 => h9) dX12_areLikesHere_25 f_a0_X12_10 ?_
    refine lv_imul hx hb dX12_areLikesHere_28 ?_
    refine lv_topi (fun v28 e_v28 => ?_)
    have e_v28 : v28.toInt = 6 * v14m.toInt := ml_i e_v28 li_6 rfl (by omega) (by omega)
    refine lv_istore_n (lv' := [(1, .int v28), (0, .ref a0)]) hx hb dX12_areLikesHere_29 rfl hl (by decide) rfl (fun ls hl => ?_)
    refine lv_aload_n hx hb dX12_areLikesHere_30 rfl (lv_at hl 1 rfl) ?_
    refine lv_iconst (v := 0) hx hb dX12_areLikesHere_31 (by decide) ?_
    refine lv_aload_n hx hb dX12_areLikesHere_32 rfl (lv_at hl 1 rfl) ?_
    refine t_getk (ci := 12) (C := RX12) (T := TX12) (N := 38) hx hb hts iX12 hown hw rfl 7 (by decide) (hts _ tw_1132) (fun _ h9 => h9) dX12_areLikesHere_33 f_a0_X12_7 ?_
    refine lv_iconst (v := 3) hx hb dX12_areLikesHere_36 (by decide) ?_
    refine t_ialdk hx hb hw k_v7 rfl rfl (by decide) (by decide) f_v7_M_read_3 dX12_areLikesHere_37 ?_
    refine lv_iconst (v := 1) hx hb dX12_areLikesHere_38 (by decide) ?_
    refine lv_isub hx hb dX12_areLikesHere_39 ?_
    refine lv_topi (fun v39 e_v39 => ?_)
    have e_v39 : v39.toInt = v11.toInt - 1 := sb_i e_v39 rfl li_1 (by omega) (by omega)
    refine t_calli (va_runV (As := [.int 0, .int v39]) (rest := []) ⟨hx, hb, hml, hown, hts⟩ (t_X12_numberHere l dC dI tys κ B w_2 hw.2.2.2.2 a0 k_a0 0 (by decide) (by decide) v39 (by omega) (by omega) v14n (by omega) (by omega) f_a0_X12_8 v1q1 (by omega) (by omega) f_a0_X12_1 v14m f_a0_X12_10 H.size) (cwV 2 hts (gUV tw_1308 tw_1310 ts_3_12 tw_13 tw_1311) rfl rfl rfl (by decide +kernel) ⟨(Nat.le_of_ble_eq_true rfl), (Nat.le_of_ble_eq_true rfl)⟩) ⟨cPre.blind, t_recv hw (ci := 12) k_a0 rfl rfl, cPre.use hw.2.1 hw.1 hw.2.2.1 hE⟩ rfl rfl hl.1 rfl (lv_room (Nat.le_of_ble_eq_true rfl)) dX12_areLikesHere_40 ⟨(Nat.le_of_ble_eq_true rfl), (Nat.le_of_ble_eq_true rfl)⟩) hw hA (fun _ _ h => h.2.2.1) (fun v40 w_3 H locs hp hw => ?_)
    obtain ⟨l_v40, h_v40, _, hm, ⟨v40n, v40m, l_v40n, h_v40n, l_v40m, h_v40m, f_a0_X12_8, f_a0_X12_10, y_v40⟩⟩ := hp
    have zc_0 := li_0
    have hM := hM.trans hm (by decide) (by decide)
    have f_a0_X12_1 := hm.1 _ _ _ _ f_a0_X12_1 (by decide)
    have f_a0_X12_7 := hm.1 _ _ _ _ f_a0_X12_7 (by decide)
    have f_v7_M_read_3 := hm.elt k_v7 (by decide) f_v7_M_read_3
    refine lv_if_ne (tgt := 48) hx hb dX12_areLikesHere_43 (by decide) (fun c_43 => ?_) (fun c_43 => ?_)
    · simp only [fa_lt, fa_le, fa_eq, li_0] at c_43
      refine lv_aload_n hx hb dX12_areLikesHere_48 rfl (lv_at hl 1 rfl) ?_
      refine lv_bipush (v := 70) hx hb dX12_areLikesHere_49 (by decide) ?_
      refine lv_iload_n hx hb dX12_areLikesHere_51 rfl (lv_at hl 0 rfl) ?_
      refine lv_iadd hx hb dX12_areLikesHere_52 ?_
      refine lv_topi (fun v52 e_v52 => ?_)
      have e_v52 : v52.toInt = 70 + v28.toInt := ad_i e_v52 li_70 rfl (by omega) (by omega)
      refine lv_aload_n hx hb dX12_areLikesHere_53 rfl (lv_at hl 1 rfl) ?_
      refine t_getk (ci := 12) (C := RX12) (T := TX12) (N := 38) hx hb hts iX12 hown hw rfl 10 (by decide) (hts _ tw_1135) (fun _ h9 => h9) dX12_areLikesHere_54 f_a0_X12_10 ?_
      refine lv_iadd hx hb dX12_areLikesHere_57 ?_
      refine lv_topi (fun v57 e_v57 => ?_)
      have e_v57 : v57.toInt = v52.toInt + v40m.toInt := ad_i e_v57 rfl rfl (by omega) (by omega)
      refine lv_iconst (v := 0) hx hb dX12_areLikesHere_58 (by decide) ?_
      refine lv_bipush (v := 20) hx hb dX12_areLikesHere_59 (by decide) ?_
      obtain ⟨v61q3, r_v61q3, s_v61q3, f_v7_M_read_0⟩ := t_peeke (i := (0 : Int32)) hw.2.2.2.2 k_v7 rfl (by decide)
      have l_v61q3 : 0 ≤ v61q3.toInt := by rw [iv_59_0] at r_v61q3; exact r_v61q3
      have h_v61q3 : v61q3.toInt ≤ 1 := by rw [iv_59_0] at s_v61q3; exact s_v61q3
      obtain ⟨v61q5, r_v61q5, s_v61q5, f_v7_M_read_4⟩ := t_peeke (i := (4 : Int32)) hw.2.2.2.2 k_v7 rfl (by decide)
      have l_v61q5 : 0 ≤ v61q5.toInt := by rw [iv_59_4] at r_v61q5; exact r_v61q5
      have h_v61q5 : v61q5.toInt ≤ 4 := by rw [iv_59_4] at s_v61q5; exact s_v61q5
      obtain ⟨v61q6, r_v61q6, s_v61q6, f_v7_M_read_5⟩ := t_peeke (i := (5 : Int32)) hw.2.2.2.2 k_v7 rfl (by decide)
      have l_v61q6 : 0 ≤ v61q6.toInt := by rw [iv_59_5] at r_v61q6; exact r_v61q6
      have h_v61q6 : v61q6.toInt ≤ 6 := by rw [iv_59_5] at s_v61q6; exact s_v61q6
      refine t_calli (va_runV (As := [.int v57, .int 0, .int 20]) (rest := []) ⟨hx, hb, hml, hown, hts⟩ (t_X12_cellHere l dC dI tys κ B w_3 hw.2.2.2.2 a0 k_a0 v57 (by omega) (by omega) 0 (by decide) (by decide) 20 (by decide) (by decide) v40n (by omega) (by omega) f_a0_X12_8 v1q1 (by omega) (by omega) f_a0_X12_1 v7 k_v7 f_a0_X12_7 v61q3 (by omega) (by omega) f_v7_M_read_0 v11 (by omega) (by omega) f_v7_M_read_3 v61q5 (by omega) (by omega) f_v7_M_read_4 v61q6 (by omega) (by omega) f_v7_M_read_5 v40m f_a0_X12_10 (by have := li_0; have := li_20; omega) H.size) (cwV 3 hts (gUV tw_1304 tw_1306 ts_3_11 tw_13 tw_1307) rfl rfl rfl (by decide +kernel) ⟨(Nat.le_of_ble_eq_true rfl), (Nat.le_of_ble_eq_true rfl)⟩) ⟨cPre.blind, t_recv hw (ci := 12) k_a0 rfl rfl, cPre.use hw.2.1 hw.1 hw.2.2.1 hE⟩ rfl rfl hl.1 rfl (lv_room (Nat.le_of_ble_eq_true rfl)) dX12_areLikesHere_61 ⟨(Nat.le_of_ble_eq_true rfl), (Nat.le_of_ble_eq_true rfl)⟩) hw hA (fun _ _ h => h.2.2.1) (fun v61 w_4 H locs hp hw => ?_)
      obtain ⟨l_v61, h_v61, _, hm, f_v7_M_read_0, f_v7_M_read_3, f_v7_M_read_4, f_v7_M_read_5, ⟨v61n, v61m, l_v61n, h_v61n, l_v61m, h_v61m, f_a0_X12_8, f_a0_X12_10, y_v61⟩⟩ := hp
      have zc_0 := li_0
      have zc_20 := li_20
      have hM := hM.trans hm (by decide) (by decide)
      have f_a0_X12_1 := hm.1 _ _ _ _ f_a0_X12_1 (by decide)
      have f_a0_X12_7 := hm.1 _ _ _ _ f_a0_X12_7 (by decide)
      rw [hQ]
      refine W.widen (k := 0) (n := 0) (Nat.le_refl _) (Nat.le_refl _) ?_
      exact W.zret (v := v61) hx hb hr (nb_i (by omega) (by omega)) (fun t ht hW => ⟨⟨v61, w_4, rfl, ⟨(by omega), (by omega), hw.2.2.2.2, hM⟩, by rw [ht]; exact hw.2.1, va_K.moved hW.alike hw.1, hw.2.2.1⟩, hw.2.2.2.1.F ht⟩) hw.2.2.2.1.2.2 dX12_areLikesHere_64
    · simp only [fa_lt, fa_le, fa_eq, li_0] at c_43
      refine lv_iconst (v := 0) hx hb dX12_areLikesHere_46 (by decide) ?_
      rw [hQ]
      refine W.widen (k := 0) (n := 0) (Nat.le_refl _) (Nat.le_refl _) ?_
      exact W.zret (v := 0) hx hb hr rfl (fun t ht hW => ⟨⟨0, w_3, rfl, ⟨(by decide), (by decide), hw.2.2.2.2, hM⟩, by rw [ht]; exact hw.2.1, va_K.moved hW.alike hw.1, hw.2.2.1⟩, hw.2.2.2.1.F ht⟩) hw.2.2.2.1.2.2 dX12_areLikesHere_47
  · simp only [fa_lt, fa_le, fa_eq, li_0] at c_17
    refine lv_iconst (v := 0) hx hb dX12_areLikesHere_20 (by decide) ?_
    rw [hQ]
    refine W.widen (k := 0) (n := 0) (Nat.le_refl _) (Nat.le_refl _) ?_
    exact W.zret (v := 0) hx hb hr rfl (fun t ht hW => ⟨⟨0, w_2, rfl, ⟨(by decide), (by decide), hw.2.2.2.2, hM⟩, by rw [ht]; exact hw.2.1, va_K.moved hW.alike hw.1, hw.2.2.1⟩, hw.2.2.2.1.F ht⟩) hw.2.2.2.1.2.2 dX12_areLikesHere_21
set_option maxHeartbeats 4000000 in
set_option maxRecDepth 100000 in
theorem t_X12_back (l : Launch) (dC : Nat → ClassId) (dI : Nat → Nat → Nat) (tys : List (ClassId × FieldType)) (κ : tK) (B : Nat) (ws : va_W) (hT : Ty κ tys B ws) (a0 : Nat) (k_a0 : κ a0 = some 12) (a1 : Int32) (f0 : Nat) (k_f0 : κ f0 = some 63) (f_a0_X12_20 : fld ws a0 12 20 (.ref f0)) (f1 : Int32) (l_f1 : 0 ≤ f1.toInt) (h_f1 : f1.toInt ≤ 999) (f_f0_M_said_10 : elt ws f0 (10 : Int32).toInt.toNat f1) (sz : Nat) : Met l yX12_back (ws_u yX12_back cX12_back 3 (some .int)) ({ frames := 1, cells := 0, slots := 0, locals := 25 }) (va_Pc [.ref a0, .int a1] (cPre (dC, dI) tys ws sz)) (va_Qi (fun (r : Int32) (w : va_W) => (-1) ≤ r.toInt ∧ r.toInt ≤ 1999 ∧ Ty κ tys B w ∧ Sm [(12, 21), (12, 22), (12, 26)] [63] κ ws w ∧ (∃ (xd : Int32), 0 ≤ xd.toInt ∧ xd.toInt ≤ 999 ∧ elt w f0 (10 : Int32).toInt.toNat xd)) (fun w t => cPost (dC, dI) tys w (va_A ws sz) t) (va_A ws sz)) 0 0 (va_A ws sz) := by
  refine Met.ofW (cc := cX12_back) (maxL := 3) (ret := (some .int)) (by decide) rfl ?_
  intro p e s m args below meth c s₁ B0 hml hv
  obtain ⟨rfl, hsz, hP, hK, hD0, hE⟩ := hv
  have hx := B0.exec
  have hb := B0.bytes
  have hr := B0.returns
  have hts0 := atoms_spec (ws := ws_u yX12_back cX12_back 3 (some .int)) B0.pre
  have hts : ∀ w ∈ gT, w.before _ s = true := fun w h => hts0 w (List.mem_cons_of_mem _ h)
  have hown : s.vm.findClass RX12 = some m.cls := findClass_of_methodNamed B0.named
  have hlocks := B0.notSynchronized
  subst hsz
  have hD := hD0.self (sz := s.heap.size)
  generalize hAe : va_A ws s.heap.size = A at hD ⊢
  have hA : ∀ q : Nat, s.heap.size ≤ q → A q := fun q h => by rw [← hAe]; exact Or.inr h
  have hw : tW (dC, dI) tys κ B A s ws s.heap [] := ⟨hK, hP, hD, va_S.rf, hT⟩
  have hM : Sm [(12, 21), (12, 22), (12, 26)] [63] κ ws ws := Sm.rf
  clear hP hK hD hD0 hts0
  have l_a1 := i32_lo a1
  have h_a1 := i32_hi a1
  have hl := lv_entry ([.ref a0, .int a1]) (n := 3) (Nat.le_of_ble_eq_true rfl)
  rw [lg_entry_eq]
  generalize (lg_sl ([.ref a0, .int a1]) ++ List.replicate (3 - (lg_sl ([.ref a0, .int a1])).length) Slot.unset).toArray = ls at hl ⊢
  have hl : lv_has ls 3 [(0, .ref a0), (1, .int a1)] := hl
  refine t_start (fun QQ hQ => ?_)
  refine lv_iload_n hx hb dX12_back_0 rfl (lv_at hl 1 rfl) ?_
  refine lv_i2l hx hb dX12_back_1 rfl ?_
  refine lv_topl (fun v1 e_v1 => ?_)
  have t_v1 : v1.toInt = a1.toInt := by rw [e_v1, Int32.toInt_toInt64]
  refine lv_lconst (v := 0) hx hb dX12_back_2 (by decide) ?_
  obtain ⟨v2, e_v2⟩ : ∃ y : Int64, y = 0 := ⟨_, rfl⟩
  refine W.eq (g2 := F0 m 3 ls [.long v2, .long v1]) (by rw [e_v2]) ?_
  have t_v2 : v2.toInt = 0 := by rw [e_v2]; decide
  refine lv_ldc2 (v := 3) hx hb hown (hts _ tw_1452) dX12_back_3 ?_
  refine lv_topl (fun v3 e_v3 => ?_)
  have t_v3 : v3.toInt = 3 := by rw [e_v3]; decide
  refine t_calli (va_runS (As := [.long v1, .long v2, .long v3]) (rest := []) ⟨hx, hb, hml, hown, hts⟩ (t_X12_in l dC dI tys κ B ws hw.2.2.2.2 v1 v2 v3 s.heap.size) (va_cwS 3 hts (gUS tw_1316 tw_1317 tw_13 tw_1318) rfl rfl rfl (by decide +kernel) ⟨(Nat.le_of_ble_eq_true rfl), (Nat.le_of_ble_eq_true rfl)⟩) ⟨cPre.blind, cPre.use hw.2.1 hw.1 hw.2.2.1 hE⟩ rfl rfl hl.1 rfl (lv_room (Nat.le_of_ble_eq_true rfl)) dX12_back_6 ⟨(Nat.le_of_ble_eq_true rfl), (Nat.le_of_ble_eq_true rfl)⟩) hw hA (fun _ _ h => h.2.2.1) (fun v6 w_1 H locs hp hw => ?_)
  obtain ⟨l_v6, h_v6, _, hm, x_v6_0⟩ := hp
  have hM := hM.trans hm (by decide) (by decide)
  have f_a0_X12_20 := hm.1 _ _ _ _ f_a0_X12_20 (by decide)
  have f_f0_M_said_10 := hm.elt k_f0 (by decide) f_f0_M_said_10
  refine lv_if_eq (tgt := 21) hx hb dX12_back_9 (by decide) (fun c_9 => ?_) (fun c_9 => ?_)
  · simp only [fa_lt, fa_le, fa_eq, li_0] at c_9
    refine lv_iconst (v := (-1)) hx hb dX12_back_21 (by decide) ?_
    rw [hQ]
    refine W.widen (k := 0) (n := 0) (Nat.le_refl _) (Nat.le_refl _) ?_
    exact W.iret (v := (-1)) hx hb hr (fun t ht hW => ⟨⟨(-1), w_1, rfl, ⟨(by decide), (by decide), hw.2.2.2.2, hM, ⟨f1, (by omega), (by omega), f_f0_M_said_10⟩⟩, by rw [ht]; exact hw.2.1, va_K.moved hW.alike hw.1, hw.2.2.1⟩, hw.2.2.2.1.F ht⟩) hw.2.2.2.1.2.2 dX12_back_22
  · simp only [fa_lt, fa_le, fa_eq, li_0] at c_9
    refine lv_aload_n hx hb dX12_back_12 rfl (lv_at hl 0 rfl) ?_
    refine t_getr (k1 := 75) (ci := 12) (C := RX12) (T := TX12) (N := 38) hx hb hts iX12 hown hw k_a0 rfl rfl rfl 37 (by decide) (hts _ tw_1162) (fun _ h9 => h9) dX12_back_13 rfl (fun v13 k_v13 f_a0_X12_37 => ?_)
    refine lv_iload_n hx hb dX12_back_16 rfl (lv_at hl 1 rfl) ?_
    refine t_zald hx hb hw k_v13 rfl rfl (by omega) (show a1.toInt < 4 by omega) dX12_back_17 (fun v17 r_v17 s_v17 q_v17 => ?_)
    have l_v17 := i32_lo v17
    have h_v17 := i32_hi v17
    refine lv_if_ne (tgt := 23) hx hb dX12_back_18 (by decide) (fun c_18 => ?_) (fun c_18 => ?_)
    · simp only [fa_lt, fa_le, fa_eq, li_0] at c_18
      refine lv_aload_n hx hb dX12_back_23 rfl (lv_at hl 0 rfl) ?_
      refine lv_aload_n hx hb dX12_back_24 rfl (lv_at hl 0 rfl) ?_
      refine t_getr (k1 := 73) (ci := 12) (C := RX12) (T := TX12) (N := 38) hx hb hts iX12 hown hw k_a0 rfl rfl rfl 35 (by decide) (hts _ tw_1160) (fun _ h9 => h9) dX12_back_25 rfl (fun v25 k_v25 f_a0_X12_35 => ?_)
      refine lv_iload_n hx hb dX12_back_28 rfl (lv_at hl 1 rfl) ?_
      refine t_iald hx hb hw k_v25 rfl rfl (by omega) (show a1.toInt < 4 by omega) dX12_back_29 (fun v29 r_v29 s_v29 q_v29 => ?_)
      have l_v29 : (-1) ≤ v29.toInt := r_v29
      have h_v29 : v29.toInt ≤ 5 := s_v29
      refine t_put (ci := 12) (C := RX12) (T := TX12) (N := 38) (v := .int v29) hx hb hts iX12 tyX12 tyX12_ok nmX12 hown hw k_a0 rfl rfl rfl 21 (by decide) (hts _ tw_1146) (fun _ h9 => h9) rfl (tyX12_ok 21 (by decide)) rfl rfl (okV.int rfl (by omega) (by omega)) dX12_back_30 (fun w_2 H locs hw u => ?_)
      have hM := hM.up1 u (by decide)
      have f_a0_X12_20 := u.1 _ _ _ _ f_a0_X12_20 (Or.inr (Or.inr (by decide)))
      have f_f0_M_said_10 := u.elt f_f0_M_said_10
      have f_a0_X12_37 := u.1 _ _ _ _ f_a0_X12_37 (Or.inr (Or.inr (by decide)))
      have f_a0_X12_35 := u.1 _ _ _ _ f_a0_X12_35 (Or.inr (Or.inr (by decide)))
      have f_a0_X12_21 := u.2.2
      refine lv_aload_n hx hb dX12_back_33 rfl (lv_at hl 0 rfl) ?_
      refine lv_aload_n hx hb dX12_back_34 rfl (lv_at hl 0 rfl) ?_
      refine t_getr (k1 := 74) (ci := 12) (C := RX12) (T := TX12) (N := 38) hx hb hts iX12 hown hw k_a0 rfl rfl rfl 36 (by decide) (hts _ tw_1161) (fun _ h9 => h9) dX12_back_35 rfl (fun v35 k_v35 f_a0_X12_36 => ?_)
      refine lv_iload_n hx hb dX12_back_38 rfl (lv_at hl 1 rfl) ?_
      refine t_iald hx hb hw k_v35 rfl rfl (by omega) (show a1.toInt < 4 by omega) dX12_back_39 (fun v39 r_v39 s_v39 q_v39 => ?_)
      have l_v39 := i32_lo v39
      have h_v39 := i32_hi v39
      refine t_put (ci := 12) (C := RX12) (T := TX12) (N := 38) (v := .int v39) hx hb hts iX12 tyX12 tyX12_ok nmX12 hown hw k_a0 rfl rfl rfl 22 (by decide) (hts _ tw_1147) (fun _ h9 => h9) rfl (tyX12_ok 22 (by decide)) rfl rfl (okV.int rfl (by omega) (by omega)) dX12_back_40 (fun w_3 H locs hw u => ?_)
      have hM := hM.up1 u (by decide)
      have f_a0_X12_20 := u.1 _ _ _ _ f_a0_X12_20 (Or.inr (Or.inr (by decide)))
      have f_f0_M_said_10 := u.elt f_f0_M_said_10
      have f_a0_X12_37 := u.1 _ _ _ _ f_a0_X12_37 (Or.inr (Or.inr (by decide)))
      have f_a0_X12_35 := u.1 _ _ _ _ f_a0_X12_35 (Or.inr (Or.inr (by decide)))
      have f_a0_X12_21 := u.1 _ _ _ _ f_a0_X12_21 (Or.inr (Or.inr (by decide)))
      have f_a0_X12_36 := u.1 _ _ _ _ f_a0_X12_36 (Or.inr (Or.inr (by decide)))
      have f_a0_X12_22 := u.2.2
      refine lv_aload_n hx hb dX12_back_43 rfl (lv_at hl 0 rfl) ?_
      refine lv_iconst (v := 0) hx hb dX12_back_44 (by decide) ?_
      refine t_put (ci := 12) (C := RX12) (T := TX12) (N := 38) (v := .int 0) hx hb hts iX12 tyX12 tyX12_ok nmX12 hown hw k_a0 rfl rfl rfl 26 (by decide) (hts _ tw_1151) (fun _ h9 => h9) rfl (tyX12_ok 26 (by decide)) rfl rfl (okV.int rfl (by decide) (by decide)) dX12_back_45 (fun w_4 H locs hw u => ?_)
      have hM := hM.up1 u (by decide)
      have f_a0_X12_20 := u.1 _ _ _ _ f_a0_X12_20 (Or.inr (Or.inr (by decide)))
      have f_f0_M_said_10 := u.elt f_f0_M_said_10
      have f_a0_X12_37 := u.1 _ _ _ _ f_a0_X12_37 (Or.inr (Or.inr (by decide)))
      have f_a0_X12_35 := u.1 _ _ _ _ f_a0_X12_35 (Or.inr (Or.inr (by decide)))
      have f_a0_X12_21 := u.1 _ _ _ _ f_a0_X12_21 (Or.inr (Or.inr (by decide)))
      have f_a0_X12_36 := u.1 _ _ _ _ f_a0_X12_36 (Or.inr (Or.inr (by decide)))
      have f_a0_X12_22 := u.1 _ _ _ _ f_a0_X12_22 (Or.inr (Or.inr (by decide)))
      have f_a0_X12_26 := u.2.2
      refine lv_iconst (v := 0) hx hb dX12_back_48 (by decide) ?_
      refine lv_istore_n (lv' := [(2, .int 0), (0, .ref a0), (1, .int a1)]) hx hb dX12_back_49 rfl hl (by decide) rfl (fun ls hl => ?_)
      have J50 : ∀ (n : Nat) (H : Heap) (locs : List Loc) (ls : Array Slot), (∃ (w50 : va_W) (p50_l2 : Int32), tW (dC, dI) tys κ B A s w50 H locs ∧ Sm [(12, 21), (12, 22), (12, 26)] [63] κ ws w50 ∧ 0 ≤ p50_l2.toInt ∧ p50_l2.toInt ≤ 306 ∧ fld w50 a0 12 20 (.ref f0) ∧ fld w50 a0 12 21 (.int v29) ∧ fld w50 a0 12 22 (.int v39) ∧ fld w50 a0 12 26 (.int 0) ∧ fld w50 a0 12 35 (.ref v25) ∧ fld w50 a0 12 36 (.ref v35) ∧ fld w50 a0 12 37 (.ref v13) ∧ dayOk w50 f0 p50_l2 10 ∧ lv_has ls 3 [(0, .ref a0), (1, .int a1), (2, .int p50_l2)] ∧ (306 - p50_l2.toInt).toNat = n) → W p l e (headSpec (ws_u yX12_back cX12_back 3 (some .int)) ({ frames := 1, cells := 0, slots := 0, locals := 25 })).room s m ([.ref a0, .int a1] : List Value).toArray below meth c H locs 0 0 QQ (F0 m 50 ls []) := by
        refine loopT _ ?_
        intro n_50 H locs ls hI ih_50
        obtain ⟨w50, p50_l2, hw, hM, l_p50_l2, h_p50_l2, f_a0_X12_20, f_a0_X12_21, f_a0_X12_22, f_a0_X12_26, f_a0_X12_35, f_a0_X12_36, f_a0_X12_37, li_50_0, hl, hn_50⟩ := hI
        refine lv_iload_n hx hb dX12_back_50 rfl (lv_at hl 2 rfl) ?_
        refine lv_sipush (v := 306) hx hb dX12_back_51 (by decide) ?_
        refine lv_icmp_ge (tgt := 81) hx hb dX12_back_54 (by decide) (fun c_54 => ?_) (fun c_54 => ?_)
        · simp only [fa_lt, fa_le, fa_eq, li_306] at c_54
          refine lv_aload_n hx hb dX12_back_81 rfl (lv_at hl 0 rfl) ?_
          refine t_getk (ci := 12) (C := RX12) (T := TX12) (N := 38) hx hb hts iX12 hown hw rfl 20 (by decide) (hts _ tw_1145) (fun _ h9 => h9) dX12_back_82 f_a0_X12_20 ?_
          refine lv_bipush (v := 10) hx hb dX12_back_85 (by decide) ?_
          refine t_iald hx hb hw k_f0 rfl rfl (by decide) (by decide) dX12_back_87 (fun v87 r_v87 s_v87 f_f0_M_said_10 => ?_)
          have l_v87 : 0 ≤ v87.toInt := by rw [iv_63_10] at r_v87; exact r_v87
          have h_v87 : v87.toInt ≤ 1999 := by rw [iv_63_10] at s_v87; exact s_v87
          rw [hQ]
          refine W.widen (k := 0) (n := 0) (Nat.le_refl _) (Nat.le_refl _) ?_
          exact W.iret (v := v87) hx hb hr (fun t ht hW => ⟨⟨v87, w50, rfl, ⟨(by omega), (by omega), hw.2.2.2.2, hM, (by rcases li_50_0 with hy | ⟨d, he, h1, h2⟩; exact absurd hy (by omega); exact ⟨d, h1, h2, he⟩)⟩, by rw [ht]; exact hw.2.1, va_K.moved hW.alike hw.1, hw.2.2.1⟩, hw.2.2.2.1.F ht⟩) hw.2.2.2.1.2.2 dX12_back_88
        · simp only [fa_lt, fa_le, fa_eq, li_306] at c_54
          refine lv_aload_n hx hb dX12_back_57 rfl (lv_at hl 0 rfl) ?_
          refine t_getk (ci := 12) (C := RX12) (T := TX12) (N := 38) hx hb hts iX12 hown hw rfl 20 (by decide) (hts _ tw_1145) (fun _ h9 => h9) dX12_back_58 f_a0_X12_20 ?_
          refine lv_iload_n hx hb dX12_back_61 rfl (lv_at hl 2 rfl) ?_
          refine lv_aload_n hx hb dX12_back_62 rfl (lv_at hl 0 rfl) ?_
          refine t_getr (k1 := 72) (ci := 12) (C := RX12) (T := TX12) (N := 38) hx hb hts iX12 hown hw k_a0 rfl rfl rfl 34 (by decide) (hts _ tw_1159) (fun _ h9 => h9) dX12_back_63 rfl (fun v63 k_v63 f_a0_X12_34 => ?_)
          refine lv_sipush (v := 306) hx hb dX12_back_66 (by decide) ?_
          refine lv_iload_n hx hb dX12_back_69 rfl (lv_at hl 1 rfl) ?_
          refine lv_imul hx hb dX12_back_70 ?_
          refine lv_topi (fun v70 e_v70 => ?_)
          have e_v70 : v70.toInt = 306 * a1.toInt := ml_i e_v70 li_306 rfl (by omega) (by omega)
          refine lv_iload_n hx hb dX12_back_71 rfl (lv_at hl 2 rfl) ?_
          refine lv_iadd hx hb dX12_back_72 ?_
          refine lv_topi (fun v72 e_v72 => ?_)
          have e_v72 : v72.toInt = v70.toInt + p50_l2.toInt := ad_i e_v72 rfl rfl (by omega) (by omega)
          refine t_iald hx hb hw k_v63 rfl rfl (by omega) (show v72.toInt < 1224 by omega) dX12_back_73 (fun v73 r_v73 s_v73 q_v73 => ?_)
          have l_v73 := i32_lo v73
          have h_v73 := i32_hi v73
          have hs_p50_l2 : (aiv B 63 p50_l2.toInt.toNat).1 ≤ v73.toInt ∧ v73.toInt ≤ (aiv B 63 p50_l2.toInt.toNat).2 := by
            rw [aiv_images, show v72.toInt.toNat % 306 = p50_l2.toInt.toNat by omega] at r_v73 s_v73
            rw [aiv_said]
            exact ivS_mono r_v73 s_v73
          refine t_iast hx hb hw k_f0 rfl rfl (by omega) (show p50_l2.toInt < 306 by omega) hs_p50_l2.1 hs_p50_l2.2 dX12_back_74 (fun w_5 H locs hw u => ?_)
          have hM := hM.up3 u k_f0 (by decide)
          have f_a0_X12_20 := u.1 _ _ _ _ f_a0_X12_20
          have f_a0_X12_21 := u.1 _ _ _ _ f_a0_X12_21
          have f_a0_X12_22 := u.1 _ _ _ _ f_a0_X12_22
          have f_a0_X12_26 := u.1 _ _ _ _ f_a0_X12_26
          have f_a0_X12_35 := u.1 _ _ _ _ f_a0_X12_35
          have f_a0_X12_36 := u.1 _ _ _ _ f_a0_X12_36
          have f_a0_X12_37 := u.1 _ _ _ _ f_a0_X12_37
          have f_a0_X12_34 := u.1 _ _ _ _ f_a0_X12_34
          obtain ⟨v75, e_v75⟩ : ∃ y : Int32, y = p50_l2 + 1 := ⟨_, rfl⟩
          refine lv_iinc (v := v75) (lv' := [(2, .int v75), (0, .ref a0), (1, .int a1)]) hx hb dX12_back_75 hl (k := 2) rfl e_v75.symm (by decide) rfl (fun ls hl => ?_)
          have e_v75 : v75.toInt = p50_l2.toInt + 1 := ad_i e_v75 rfl li_1 (by omega) (by omega)
          refine lv_goto (tgt := 50) hx hb dX12_back_78 (by decide) ?_
          have hli : dayOk w_5 f0 v75 10 := by
            have e10 : (10 : Int32).toInt.toNat = 10 := by decide
            by_cases hz : p50_l2.toInt = 10
            · refine Or.inr ⟨v73, ?_, ?_, ?_⟩
              · rw [e10, show (10 : Nat) = p50_l2.toInt.toNat by omega]; exact u.2.2.2
              · rw [aiv_images, show v72.toInt.toNat % 306 = 10 by omega, ivS_10] at r_v73; exact r_v73
              · rw [aiv_images, show v72.toInt.toNat % 306 = 10 by omega, ivS_10] at s_v73; exact s_v73
            · rcases li_50_0 with hy | ⟨d, he, h1, h2⟩
              · exact Or.inl (by omega)
              · exact Or.inr ⟨d, u.2.2.1 _ _ _ he (Or.inr (by rw [e10]; omega)), h1, h2⟩
          exact ih_50 _ _ _ _ (by omega) ⟨w_5, v75, hw, hM, (by omega), (by omega), f_a0_X12_20, f_a0_X12_21, f_a0_X12_22, f_a0_X12_26, f_a0_X12_35, f_a0_X12_36, f_a0_X12_37, hli, (lv_sub hl [1, 2, 0] rfl), rfl⟩
      have hli : dayOk w_4 f0 (0 : Int32) 10 := by
        exact Or.inl (by decide)
      exact J50 _ _ _ _ ⟨w_4, 0, hw, hM, (by decide), (by decide), f_a0_X12_20, f_a0_X12_21, f_a0_X12_22, f_a0_X12_26, f_a0_X12_35, f_a0_X12_36, f_a0_X12_37, hli, (lv_sub hl [1, 2, 0] rfl), rfl⟩
    · simp only [fa_lt, fa_le, fa_eq, li_0] at c_18
      refine lv_iconst (v := (-1)) hx hb dX12_back_21 (by decide) ?_
      rw [hQ]
      refine W.widen (k := 0) (n := 0) (Nat.le_refl _) (Nat.le_refl _) ?_
      exact W.iret (v := (-1)) hx hb hr (fun t ht hW => ⟨⟨(-1), w_1, rfl, ⟨(by decide), (by decide), hw.2.2.2.2, hM, ⟨f1, (by omega), (by omega), f_f0_M_said_10⟩⟩, by rw [ht]; exact hw.2.1, va_K.moved hW.alike hw.1, hw.2.2.1⟩, hw.2.2.2.1.F ht⟩) hw.2.2.2.1.2.2 dX12_back_22
set_option maxHeartbeats 4000000 in
set_option maxRecDepth 100000 in
theorem t_X12_isWantedMore (l : Launch) (dC : Nat → ClassId) (dI : Nat → Nat → Nat) (tys : List (ClassId × FieldType)) (κ : tK) (B : Nat) (ws : va_W) (hT : Ty κ tys B ws) (a0 : Nat) (k_a0 : κ a0 = some 12) (a1 : Int32) (l_a1 : 0 ≤ a1.toInt) (h_a1 : a1.toInt ≤ 5) (a2 : Int32) (l_a2 : 0 ≤ a2.toInt) (h_a2 : a2.toInt ≤ 5) (a3 : Int32) (l_a3 : 0 ≤ a3.toInt) (h_a3 : a3.toInt ≤ 5) (sz : Nat) : Met l yX12_isWantedMore (ws_u yX12_isWantedMore cX12_isWantedMore 4 (some .boolean)) ({ frames := 0, cells := 0, slots := 0, locals := 0 }) (va_Pc [.ref a0, .int a1, .int a2, .int a3] (cPre (dC, dI) tys ws sz)) (va_Qi (fun (r : Int32) (w : va_W) => 0 ≤ r.toInt ∧ r.toInt ≤ 1 ∧ Ty κ tys B w ∧ Sm [] [] κ ws w) (fun w t => cPost (dC, dI) tys w (va_A ws sz) t) (va_A ws sz)) 0 0 (va_A ws sz) := by
  refine Met.ofW (cc := cX12_isWantedMore) (maxL := 4) (ret := (some .boolean)) (by decide) rfl ?_
  intro p e s m args below meth c s₁ B0 hml hv
  obtain ⟨rfl, hsz, hP, hK, hD0, hE⟩ := hv
  have hx := B0.exec
  have hb := B0.bytes
  have hr := B0.returns
  have hts0 := atoms_spec (ws := ws_u yX12_isWantedMore cX12_isWantedMore 4 (some .boolean)) B0.pre
  have hts : ∀ w ∈ gT, w.before _ s = true := fun w h => hts0 w (List.mem_cons_of_mem _ h)
  have hown : s.vm.findClass RX12 = some m.cls := findClass_of_methodNamed B0.named
  have hlocks := B0.notSynchronized
  subst hsz
  have hD := hD0.self (sz := s.heap.size)
  generalize hAe : va_A ws s.heap.size = A at hD ⊢
  have hA : ∀ q : Nat, s.heap.size ≤ q → A q := fun q h => by rw [← hAe]; exact Or.inr h
  have hw : tW (dC, dI) tys κ B A s ws s.heap [] := ⟨hK, hP, hD, va_S.rf, hT⟩
  have hM : Sm [] [] κ ws ws := Sm.rf
  clear hP hK hD hD0 hts0
  have hl := lv_entry ([.ref a0, .int a1, .int a2, .int a3]) (n := 4) (Nat.le_of_ble_eq_true rfl)
  rw [lg_entry_eq]
  generalize (lg_sl ([.ref a0, .int a1, .int a2, .int a3]) ++ List.replicate (4 - (lg_sl ([.ref a0, .int a1, .int a2, .int a3])).length) Slot.unset).toArray = ls at hl ⊢
  have hl : lv_has ls 4 [(0, .ref a0), (1, .int a1), (2, .int a2), (3, .int a3)] := hl
  refine t_start (fun QQ hQ => ?_)
  refine lv_aload_n hx hb dX12_isWantedMore_0 rfl (lv_at hl 0 rfl) ?_
  refine t_getr (k1 := 67) (ci := 12) (C := RX12) (T := TX12) (N := 38) hx hb hts iX12 hown hw k_a0 rfl rfl rfl 28 (by decide) (hts _ tw_1153) (fun _ h9 => h9) dX12_isWantedMore_1 rfl (fun v1 k_v1 f_a0_X12_28 => ?_)
  refine lv_bipush (v := 6) hx hb dX12_isWantedMore_4 (by decide) ?_
  refine lv_iload_n hx hb dX12_isWantedMore_6 rfl (lv_at hl 1 rfl) ?_
  refine lv_imul hx hb dX12_isWantedMore_7 ?_
  refine lv_topi (fun v7 e_v7 => ?_)
  have e_v7 : v7.toInt = 6 * a1.toInt := ml_i e_v7 li_6 rfl (by omega) (by omega)
  refine lv_iload_n hx hb dX12_isWantedMore_8 rfl (lv_at hl 2 rfl) ?_
  refine lv_iadd hx hb dX12_isWantedMore_9 ?_
  refine lv_topi (fun v9 e_v9 => ?_)
  have e_v9 : v9.toInt = v7.toInt + a2.toInt := ad_i e_v9 rfl rfl (by omega) (by omega)
  refine t_lald hx hb hw k_v1 rfl rfl (by omega) (show v9.toInt < 36 by omega) dX12_isWantedMore_10 (fun v10 => ?_)
  refine lv_aload_n hx hb dX12_isWantedMore_11 rfl (lv_at hl 0 rfl) ?_
  refine t_getk (ci := 12) (C := RX12) (T := TX12) (N := 38) hx hb hts iX12 hown hw rfl 28 (by decide) (hts _ tw_1153) (fun _ h9 => h9) dX12_isWantedMore_12 f_a0_X12_28 ?_
  refine lv_bipush (v := 6) hx hb dX12_isWantedMore_15 (by decide) ?_
  refine lv_iload_n hx hb dX12_isWantedMore_17 rfl (lv_at hl 1 rfl) ?_
  refine lv_imul hx hb dX12_isWantedMore_18 ?_
  refine lv_topi (fun v18 e_v18 => ?_)
  have e_v18 : v18.toInt = 6 * a1.toInt := ml_i e_v18 li_6 rfl (by omega) (by omega)
  refine lv_iload_n hx hb dX12_isWantedMore_19 rfl (lv_at hl 3 rfl) ?_
  refine lv_iadd hx hb dX12_isWantedMore_20 ?_
  refine lv_topi (fun v20 e_v20 => ?_)
  have e_v20 : v20.toInt = v18.toInt + a3.toInt := ad_i e_v20 rfl rfl (by omega) (by omega)
  refine t_lald hx hb hw k_v1 rfl rfl (by omega) (show v20.toInt < 36 by omega) dX12_isWantedMore_21 (fun v21 => ?_)
  refine W.lcmp hx hb dX12_isWantedMore_22 ?_
  refine lv_topi (fun v22 e_v22 => ?_)
  have l_v22 := i32_lo v22
  have h_v22 := i32_hi v22
  have g_v22 := lgc e_v22
  refine lv_if_le (tgt := 30) hx hb dX12_isWantedMore_23 (by decide) (fun c_23 => ?_) (fun c_23 => ?_)
  · simp only [fa_lt, fa_le, fa_eq, li_0] at c_23
    refine lv_iconst (v := 0) hx hb dX12_isWantedMore_30 (by decide) ?_
    rw [hQ]
    refine W.widen (k := 0) (n := 0) (Nat.le_refl _) (Nat.le_refl _) ?_
    exact W.zret (v := 0) hx hb hr rfl (fun t ht hW => ⟨⟨0, ws, rfl, ⟨(by decide), (by decide), hw.2.2.2.2, hM⟩, by rw [ht]; exact hw.2.1, va_K.moved hW.alike hw.1, hw.2.2.1⟩, hw.2.2.2.1.F ht⟩) hw.2.2.2.1.2.2 dX12_isWantedMore_31
  · simp only [fa_lt, fa_le, fa_eq, li_0] at c_23
    refine lv_iconst (v := 1) hx hb dX12_isWantedMore_26 (by decide) ?_
    refine lv_goto (tgt := 31) hx hb dX12_isWantedMore_27 (by decide) ?_
    rw [hQ]
    refine W.widen (k := 0) (n := 0) (Nat.le_refl _) (Nat.le_refl _) ?_
    exact W.zret (v := 1) hx hb hr rfl (fun t ht hW => ⟨⟨1, ws, rfl, ⟨(by decide), (by decide), hw.2.2.2.2, hM⟩, by rw [ht]; exact hw.2.1, va_K.moved hW.alike hw.1, hw.2.2.1⟩, hw.2.2.2.1.F ht⟩) hw.2.2.2.1.2.2 dX12_isWantedMore_31
set_option maxHeartbeats 4000000 in
set_option maxRecDepth 100000 in
theorem t_X12_beatsEach (l : Launch) (dC : Nat → ClassId) (dI : Nat → Nat → Nat) (tys : List (ClassId × FieldType)) (κ : tK) (B : Nat) (ws : va_W) (hT : Ty κ tys B ws) (a0 : Nat) (k_a0 : κ a0 = some 12) (a1 : Int32) (l_a1 : 0 ≤ a1.toInt) (h_a1 : a1.toInt ≤ 5) (sz : Nat) : Met l yX12_beatsEach (ws_u yX12_beatsEach cX12_beatsEach 5 (some .boolean)) ({ frames := 2, cells := 0, slots := 0, locals := 43 }) (va_Pc [.ref a0, .int a1] (cPre (dC, dI) tys ws sz)) (va_Qi (fun (r : Int32) (w : va_W) => 0 ≤ r.toInt ∧ r.toInt ≤ 1 ∧ Ty κ tys B w ∧ Sm [] [] κ ws w) (fun w t => cPost (dC, dI) tys w (va_A ws sz) t) (va_A ws sz)) 0 0 (va_A ws sz) := by
  refine Met.ofW (cc := cX12_beatsEach) (maxL := 5) (ret := (some .boolean)) (by decide) rfl ?_
  intro p e s m args below meth c s₁ B0 hml hv
  obtain ⟨rfl, hsz, hP, hK, hD0, hE⟩ := hv
  have hx := B0.exec
  have hb := B0.bytes
  have hr := B0.returns
  have hts0 := atoms_spec (ws := ws_u yX12_beatsEach cX12_beatsEach 5 (some .boolean)) B0.pre
  have hts : ∀ w ∈ gT, w.before _ s = true := fun w h => hts0 w (List.mem_cons_of_mem _ h)
  have hown : s.vm.findClass RX12 = some m.cls := findClass_of_methodNamed B0.named
  have hlocks := B0.notSynchronized
  subst hsz
  have hD := hD0.self (sz := s.heap.size)
  generalize hAe : va_A ws s.heap.size = A at hD ⊢
  have hA : ∀ q : Nat, s.heap.size ≤ q → A q := fun q h => by rw [← hAe]; exact Or.inr h
  have hw : tW (dC, dI) tys κ B A s ws s.heap [] := ⟨hK, hP, hD, va_S.rf, hT⟩
  have hM : Sm [] [] κ ws ws := Sm.rf
  clear hP hK hD hD0 hts0
  have hl := lv_entry ([.ref a0, .int a1]) (n := 5) (Nat.le_of_ble_eq_true rfl)
  rw [lg_entry_eq]
  generalize (lg_sl ([.ref a0, .int a1]) ++ List.replicate (5 - (lg_sl ([.ref a0, .int a1])).length) Slot.unset).toArray = ls at hl ⊢
  have hl : lv_has ls 5 [(0, .ref a0), (1, .int a1)] := hl
  refine t_start (fun QQ hQ => ?_)
  refine lv_iconst (v := 0) hx hb dX12_beatsEach_0 (by decide) ?_
  refine lv_istore_n (lv' := [(2, .int 0), (0, .ref a0), (1, .int a1)]) hx hb dX12_beatsEach_1 rfl hl (by decide) rfl (fun ls hl => ?_)
  have J2 : ∀ (n : Nat) (H : Heap) (locs : List Loc) (ls : Array Slot), (∃ (w2 : va_W) (p2_l2 : Int32), tW (dC, dI) tys κ B A s w2 H locs ∧ Sm [] [] κ ws w2 ∧ 0 ≤ p2_l2.toInt ∧ p2_l2.toInt ≤ 6 ∧ lv_has ls 5 [(0, .ref a0), (1, .int a1), (2, .int p2_l2)] ∧ (6 - p2_l2.toInt).toNat = n) → W p l e (headSpec (ws_u yX12_beatsEach cX12_beatsEach 5 (some .boolean)) ({ frames := 2, cells := 0, slots := 0, locals := 43 })).room s m ([.ref a0, .int a1] : List Value).toArray below meth c H locs 0 0 QQ (F0 m 2 ls []) := by
    refine loopT _ ?_
    intro n_2 H locs ls hI ih_2
    obtain ⟨w2, p2_l2, hw, hM, l_p2_l2, h_p2_l2, hl, hn_2⟩ := hI
    refine lv_iload_n hx hb dX12_beatsEach_2 rfl (lv_at hl 2 rfl) ?_
    refine lv_aload_n hx hb dX12_beatsEach_3 rfl (lv_at hl 0 rfl) ?_
    refine t_getr (k1 := 63) (ci := 12) (C := RX12) (T := TX12) (N := 38) hx hb hts iX12 hown hw k_a0 rfl rfl rfl 20 (by decide) (hts _ tw_1145) (fun _ h9 => h9) dX12_beatsEach_4 rfl (fun v4 k_v4 f_a0_X12_20 => ?_)
    refine lv_iconst (v := 3) hx hb dX12_beatsEach_7 (by decide) ?_
    refine t_iald hx hb hw k_v4 rfl rfl (by decide) (by decide) dX12_beatsEach_8 (fun v8 r_v8 s_v8 f_v4_M_said_3 => ?_)
    have l_v8 : 0 ≤ v8.toInt := by rw [iv_63_3] at r_v8; exact r_v8
    have h_v8 : v8.toInt ≤ 6 := by rw [iv_63_3] at s_v8; exact s_v8
    refine lv_icmp_ge (tgt := 96) hx hb dX12_beatsEach_9 (by decide) (fun c_9 => ?_) (fun c_9 => ?_)
    · simp only [fa_lt, fa_le, fa_eq] at c_9
      refine lv_iconst (v := 1) hx hb dX12_beatsEach_96 (by decide) ?_
      rw [hQ]
      refine W.widen (k := 0) (n := 0) (Nat.le_refl _) (Nat.le_refl _) ?_
      exact W.zret (v := 1) hx hb hr rfl (fun t ht hW => ⟨⟨1, w2, rfl, ⟨(by decide), (by decide), hw.2.2.2.2, hM⟩, by rw [ht]; exact hw.2.1, va_K.moved hW.alike hw.1, hw.2.2.1⟩, hw.2.2.2.1.F ht⟩) hw.2.2.2.1.2.2 dX12_beatsEach_97
    · simp only [fa_lt, fa_le, fa_eq] at c_9
      refine lv_iload_n hx hb dX12_beatsEach_12 rfl (lv_at hl 2 rfl) ?_
      refine lv_iload_n hx hb dX12_beatsEach_13 rfl (lv_at hl 1 rfl) ?_
      have J90 : ∀ (H : Heap) (locs : List Loc) (ls : Array Slot) (w90 : va_W), tW (dC, dI) tys κ B A s w90 H locs → Sm [] [] κ ws w90 → fld w90 a0 12 20 (.ref v4) → elt w90 v4 (3 : Int32).toInt.toNat v8 → lv_has ls 5 [(0, .ref a0), (1, .int a1), (2, .int p2_l2)] → W p l e (headSpec (ws_u yX12_beatsEach cX12_beatsEach 5 (some .boolean)) ({ frames := 2, cells := 0, slots := 0, locals := 43 })).room s m ([.ref a0, .int a1] : List Value).toArray below meth c H locs 0 0 QQ (F0 m 90 ls []) := by
        intro H locs ls w90 hw hM f_a0_X12_20 f_v4_M_said_3 hl
        obtain ⟨v90, e_v90⟩ : ∃ y : Int32, y = p2_l2 + 1 := ⟨_, rfl⟩
        refine lv_iinc (v := v90) (lv' := [(2, .int v90), (0, .ref a0), (1, .int a1)]) hx hb dX12_beatsEach_90 hl (k := 2) rfl e_v90.symm (by decide) rfl (fun ls hl => ?_)
        have e_v90 : v90.toInt = p2_l2.toInt + 1 := ad_i e_v90 rfl li_1 (by omega) (by omega)
        refine lv_goto (tgt := 2) hx hb dX12_beatsEach_93 (by decide) ?_
        exact ih_2 _ _ _ _ (by omega) ⟨w90, v90, hw, hM, (by omega), (by omega), (lv_sub hl [1, 2, 0] rfl), rfl⟩
      refine lv_icmp_eq (tgt := 90) hx hb dX12_beatsEach_14 (by decide) (fun c_14 => ?_) (fun c_14 => ?_)
      · simp only [fa_lt, fa_le, fa_eq] at c_14
        exact J90 _ _ _ w2 hw hM f_a0_X12_20 f_v4_M_said_3 (lv_sub hl [0, 1, 2] rfl)
      · simp only [fa_lt, fa_le, fa_eq] at c_14
        refine lv_aload_n hx hb dX12_beatsEach_17 rfl (lv_at hl 0 rfl) ?_
        refine lv_iload_n hx hb dX12_beatsEach_18 rfl (lv_at hl 2 rfl) ?_
        refine t_calli (va_runV (As := [.int p2_l2]) (rest := []) ⟨hx, hb, hml, hown, hts⟩ (t_X12_isSound l dC dI tys κ B w2 hw.2.2.2.2 a0 k_a0 p2_l2 H.size) (cwV 1 hts (gUV tw_1517 tw_1519 ts_6_3 tw_13 tw_1520) rfl rfl rfl (by decide +kernel) ⟨(Nat.le_of_ble_eq_true rfl), (Nat.le_of_ble_eq_true rfl)⟩) ⟨cPre.blind, t_recv hw (ci := 12) k_a0 rfl rfl, cPre.use hw.2.1 hw.1 hw.2.2.1 hE⟩ rfl rfl hl.1 rfl (lv_room (Nat.le_of_ble_eq_true rfl)) dX12_beatsEach_19 ⟨(Nat.le_of_ble_eq_true rfl), (Nat.le_of_ble_eq_true rfl)⟩) hw hA (fun _ _ h => h.2.2.1) (fun v19 w_1 H locs hp hw => ?_)
        obtain ⟨l_v19, h_v19, _, hm, x_v19_0⟩ := hp
        have hM := hM.trans hm (by decide) (by decide)
        have f_a0_X12_20 := hm.1 _ _ _ _ f_a0_X12_20 (by decide)
        have f_v4_M_said_3 := hm.elt k_v4 (by decide) f_v4_M_said_3
        refine lv_if_ne (tgt := 28) hx hb dX12_beatsEach_22 (by decide) (fun c_22 => ?_) (fun c_22 => ?_)
        · simp only [fa_lt, fa_le, fa_eq, li_0] at c_22
          refine lv_iconst (v := 0) hx hb dX12_beatsEach_28 (by decide) ?_
          refine lv_istore_n (lv' := [(3, .int 0), (0, .ref a0), (1, .int a1), (2, .int p2_l2)]) hx hb dX12_beatsEach_29 rfl hl (by decide) rfl (fun ls hl => ?_)
          refine lv_iconst (v := 0) hx hb dX12_beatsEach_30 (by decide) ?_
          refine lv_istore (lv' := [(4, .int 0), (3, .int 0), (0, .ref a0), (1, .int a1), (2, .int p2_l2)]) hx hb dX12_beatsEach_31 hl (by decide) rfl (fun ls hl => ?_)
          have J33 : ∀ (n : Nat) (H : Heap) (locs : List Loc) (ls : Array Slot), (∃ (w33 : va_W) (p33_l3 : Int32) (p33_l4 : Int32), tW (dC, dI) tys κ B A s w33 H locs ∧ Sm [] [] κ ws w33 ∧ (-2147483648) ≤ p33_l3.toInt ∧ p33_l3.toInt ≤ 2147483647 ∧ 0 ≤ p33_l4.toInt ∧ p33_l4.toInt ≤ 6 ∧ fld w33 a0 12 20 (.ref v4) ∧ elt w33 v4 (3 : Int32).toInt.toNat v8 ∧ lv_has ls 5 [(0, .ref a0), (1, .int a1), (2, .int p2_l2), (3, .int p33_l3), (4, .int p33_l4)] ∧ (6 - p33_l4.toInt).toNat = n) → W p l e (headSpec (ws_u yX12_beatsEach cX12_beatsEach 5 (some .boolean)) ({ frames := 2, cells := 0, slots := 0, locals := 43 })).room s m ([.ref a0, .int a1] : List Value).toArray below meth c H locs 0 0 QQ (F0 m 33 ls []) := by
            refine loopT _ ?_
            intro n_33 H locs ls hI ih_33
            obtain ⟨w33, p33_l3, p33_l4, hw, hM, l_p33_l3, h_p33_l3, l_p33_l4, h_p33_l4, f_a0_X12_20, f_v4_M_said_3, hl, hn_33⟩ := hI
            refine lv_iload hx hb dX12_beatsEach_33 (lv_at hl 4 rfl) ?_
            refine lv_aload_n hx hb dX12_beatsEach_35 rfl (lv_at hl 0 rfl) ?_
            refine t_getk (ci := 12) (C := RX12) (T := TX12) (N := 38) hx hb hts iX12 hown hw rfl 20 (by decide) (hts _ tw_1145) (fun _ h9 => h9) dX12_beatsEach_36 f_a0_X12_20 ?_
            refine lv_iconst (v := 3) hx hb dX12_beatsEach_39 (by decide) ?_
            refine t_ialdk hx hb hw k_v4 rfl rfl (by decide) (by decide) f_v4_M_said_3 dX12_beatsEach_40 ?_
            refine lv_icmp_ge (tgt := 84) hx hb dX12_beatsEach_41 (by decide) (fun c_41 => ?_) (fun c_41 => ?_)
            · simp only [fa_lt, fa_le, fa_eq] at c_41
              refine lv_iload_n hx hb dX12_beatsEach_84 rfl (lv_at hl 3 rfl) ?_
              refine lv_if_gt (tgt := 90) hx hb dX12_beatsEach_85 (by decide) (fun c_85 => ?_) (fun c_85 => ?_)
              · simp only [fa_lt, fa_le, fa_eq, li_0] at c_85
                exact J90 _ _ _ w33 hw hM f_a0_X12_20 f_v4_M_said_3 (lv_sub hl [0, 1, 2] rfl)
              · simp only [fa_lt, fa_le, fa_eq, li_0] at c_85
                refine lv_iconst (v := 0) hx hb dX12_beatsEach_88 (by decide) ?_
                rw [hQ]
                refine W.widen (k := 0) (n := 0) (Nat.le_refl _) (Nat.le_refl _) ?_
                exact W.zret (v := 0) hx hb hr rfl (fun t ht hW => ⟨⟨0, w33, rfl, ⟨(by decide), (by decide), hw.2.2.2.2, hM⟩, by rw [ht]; exact hw.2.1, va_K.moved hW.alike hw.1, hw.2.2.1⟩, hw.2.2.2.1.F ht⟩) hw.2.2.2.1.2.2 dX12_beatsEach_89
            · simp only [fa_lt, fa_le, fa_eq] at c_41
              refine lv_iload_n hx hb dX12_beatsEach_44 rfl (lv_at hl 3 rfl) ?_
              refine lv_aload_n hx hb dX12_beatsEach_45 rfl (lv_at hl 0 rfl) ?_
              refine lv_iload hx hb dX12_beatsEach_46 (lv_at hl 4 rfl) ?_
              refine lv_iload_n hx hb dX12_beatsEach_48 rfl (lv_at hl 1 rfl) ?_
              refine lv_iload_n hx hb dX12_beatsEach_49 rfl (lv_at hl 2 rfl) ?_
              refine t_calli (va_runV (As := [.int p33_l4, .int a1, .int p2_l2]) (rest := [.int p33_l3]) ⟨hx, hb, hml, hown, hts⟩ (t_X12_isWantedMore l dC dI tys κ B w33 hw.2.2.2.2 a0 k_a0 p33_l4 (by omega) (by omega) a1 (by omega) (by omega) p2_l2 (by omega) (by omega) H.size) (cwV 3 hts (gUV tw_1626 tw_1628 ts_7_5 tw_13 tw_1629) rfl rfl rfl (by decide +kernel) ⟨(Nat.le_of_ble_eq_true rfl), (Nat.le_of_ble_eq_true rfl)⟩) ⟨cPre.blind, t_recv hw (ci := 12) k_a0 rfl rfl, cPre.use hw.2.1 hw.1 hw.2.2.1 hE⟩ rfl rfl hl.1 rfl (lv_room (Nat.le_of_ble_eq_true rfl)) dX12_beatsEach_50 ⟨(Nat.le_of_ble_eq_true rfl), (Nat.le_of_ble_eq_true rfl)⟩) hw hA (fun _ _ h => h.2.2.1) (fun v50 w_2 H locs hp hw => ?_)
              obtain ⟨l_v50, h_v50, _, hm⟩ := hp
              have hM := hM.trans hm (by decide) (by decide)
              have f_a0_X12_20 := hm.1 _ _ _ _ f_a0_X12_20 (by decide)
              have f_v4_M_said_3 := hm.elt k_v4 (by decide) f_v4_M_said_3
              have J76 : ∀ (H : Heap) (locs : List Loc) (ls : Array Slot) (w76 : va_W) (p76_s0 : Int32), tW (dC, dI) tys κ B A s w76 H locs → Sm [] [] κ ws w76 → (-1) ≤ p76_s0.toInt → p76_s0.toInt ≤ 1 → fld w76 a0 12 20 (.ref v4) → elt w76 v4 (3 : Int32).toInt.toNat v8 → lv_has ls 5 [(0, .ref a0), (1, .int a1), (2, .int p2_l2), (3, .int p33_l3), (4, .int p33_l4)] → W p l e (headSpec (ws_u yX12_beatsEach cX12_beatsEach 5 (some .boolean)) ({ frames := 2, cells := 0, slots := 0, locals := 43 })).room s m ([.ref a0, .int a1] : List Value).toArray below meth c H locs 0 0 QQ (F0 m 76 ls [.int p76_s0, .int p33_l3]) := by
                intro H locs ls w76 p76_s0 hw hM l_p76_s0 h_p76_s0 f_a0_X12_20 f_v4_M_said_3 hl
                refine lv_iadd hx hb dX12_beatsEach_76 ?_
                refine lv_topi (fun v76 e_v76 => ?_)
                have l_v76 := i32_lo v76
                have h_v76 := i32_hi v76
                refine lv_istore_n (lv' := [(3, .int v76), (0, .ref a0), (1, .int a1), (2, .int p2_l2), (4, .int p33_l4)]) hx hb dX12_beatsEach_77 rfl hl (by decide) rfl (fun ls hl => ?_)
                obtain ⟨v78, e_v78⟩ : ∃ y : Int32, y = p33_l4 + 1 := ⟨_, rfl⟩
                refine lv_iinc (v := v78) (lv' := [(4, .int v78), (3, .int v76), (0, .ref a0), (1, .int a1), (2, .int p2_l2)]) hx hb dX12_beatsEach_78 hl (k := 4) rfl e_v78.symm (by decide) rfl (fun ls hl => ?_)
                have e_v78 : v78.toInt = p33_l4.toInt + 1 := ad_i e_v78 rfl li_1 (by omega) (by omega)
                refine lv_goto (tgt := 33) hx hb dX12_beatsEach_81 (by decide) ?_
                exact ih_33 _ _ _ _ (by omega) ⟨w76, v76, v78, hw, hM, (by omega), (by omega), (by omega), (by omega), f_a0_X12_20, f_v4_M_said_3, (lv_sub hl [2, 3, 4, 1, 0] rfl), rfl⟩
              refine lv_if_eq (tgt := 60) hx hb dX12_beatsEach_53 (by decide) (fun c_53 => ?_) (fun c_53 => ?_)
              · simp only [fa_lt, fa_le, fa_eq, li_0] at c_53
                refine lv_aload_n hx hb dX12_beatsEach_60 rfl (lv_at hl 0 rfl) ?_
                refine lv_iload hx hb dX12_beatsEach_61 (lv_at hl 4 rfl) ?_
                refine lv_iload_n hx hb dX12_beatsEach_63 rfl (lv_at hl 2 rfl) ?_
                refine lv_iload_n hx hb dX12_beatsEach_64 rfl (lv_at hl 1 rfl) ?_
                refine t_calli (va_runV (As := [.int p33_l4, .int p2_l2, .int a1]) (rest := [.int p33_l3]) ⟨hx, hb, hml, hown, hts⟩ (t_X12_isWantedMore l dC dI tys κ B w_2 hw.2.2.2.2 a0 k_a0 p33_l4 (by omega) (by omega) p2_l2 (by omega) (by omega) a1 (by omega) (by omega) H.size) (cwV 3 hts (gUV tw_1626 tw_1628 ts_7_5 tw_13 tw_1629) rfl rfl rfl (by decide +kernel) ⟨(Nat.le_of_ble_eq_true rfl), (Nat.le_of_ble_eq_true rfl)⟩) ⟨cPre.blind, t_recv hw (ci := 12) k_a0 rfl rfl, cPre.use hw.2.1 hw.1 hw.2.2.1 hE⟩ rfl rfl hl.1 rfl (lv_room (Nat.le_of_ble_eq_true rfl)) dX12_beatsEach_65 ⟨(Nat.le_of_ble_eq_true rfl), (Nat.le_of_ble_eq_true rfl)⟩) hw hA (fun _ _ h => h.2.2.1) (fun v65 w_3 H locs hp hw => ?_)
                obtain ⟨l_v65, h_v65, _, hm⟩ := hp
                have hM := hM.trans hm (by decide) (by decide)
                have f_a0_X12_20 := hm.1 _ _ _ _ f_a0_X12_20 (by decide)
                have f_v4_M_said_3 := hm.elt k_v4 (by decide) f_v4_M_said_3
                refine lv_if_eq (tgt := 75) hx hb dX12_beatsEach_68 (by decide) (fun c_68 => ?_) (fun c_68 => ?_)
                · simp only [fa_lt, fa_le, fa_eq, li_0] at c_68
                  refine lv_iconst (v := 0) hx hb dX12_beatsEach_75 (by decide) ?_
                  exact J76 _ _ _ w_3 0 hw hM (by decide) (by decide) f_a0_X12_20 f_v4_M_said_3 (lv_sub hl [0, 1, 2, 3, 4] rfl)
                · simp only [fa_lt, fa_le, fa_eq, li_0] at c_68
                  refine lv_iconst (v := (-1)) hx hb dX12_beatsEach_71 (by decide) ?_
                  refine lv_goto (tgt := 76) hx hb dX12_beatsEach_72 (by decide) ?_
                  exact J76 _ _ _ w_3 (-1) hw hM (by decide) (by decide) f_a0_X12_20 f_v4_M_said_3 (lv_sub hl [0, 1, 2, 3, 4] rfl)
              · simp only [fa_lt, fa_le, fa_eq, li_0] at c_53
                refine lv_iconst (v := 1) hx hb dX12_beatsEach_56 (by decide) ?_
                refine lv_goto (tgt := 76) hx hb dX12_beatsEach_57 (by decide) ?_
                exact J76 _ _ _ w_2 1 hw hM (by decide) (by decide) f_a0_X12_20 f_v4_M_said_3 (lv_sub hl [0, 1, 2, 3, 4] rfl)
          exact J33 _ _ _ _ ⟨w_1, 0, 0, hw, hM, (by decide), (by decide), (by decide), (by decide), f_a0_X12_20, f_v4_M_said_3, (lv_sub hl [2, 3, 4, 1, 0] rfl), rfl⟩
        · simp only [fa_lt, fa_le, fa_eq, li_0] at c_22
          refine lv_goto (tgt := 90) hx hb dX12_beatsEach_25 (by decide) ?_
          exact J90 _ _ _ w_1 hw hM f_a0_X12_20 f_v4_M_said_3 (lv_sub hl [0, 1, 2] rfl)
  exact J2 _ _ _ _ ⟨ws, 0, hw, hM, (by decide), (by decide), (lv_sub hl [1, 2, 0] rfl), rfl⟩
set_option maxHeartbeats 4000000 in
set_option maxRecDepth 100000 in
theorem t_X12_begins (l : Launch) (dC : Nat → ClassId) (dI : Nat → Nat → Nat) (tys : List (ClassId × FieldType)) (κ : tK) (B : Nat) (ws : va_W) (hT : Ty κ tys B ws) (a0 : Nat) (k_a0 : κ a0 = some 12) (f0 : Nat) (k_f0 : κ f0 = some 63) (f_a0_X12_20 : fld ws a0 12 20 (.ref f0)) (sz : Nat) : Met l yX12_begins (ws_u yX12_begins cX12_begins 2 none) ({ frames := 0, cells := 0, slots := 0, locals := 0 }) (va_Pc [.ref a0] (cPre (dC, dI) tys ws sz)) (va_Qv (fun (w : va_W) => Ty κ tys B w ∧ Sm [] [63] κ ws w ∧ (∃ (xd : Int32), 0 ≤ xd.toInt ∧ xd.toInt ≤ 0 ∧ elt w f0 (10 : Int32).toInt.toNat xd)) (fun w t => cPost (dC, dI) tys w (va_A ws sz) t) (va_A ws sz)) 0 0 (va_A ws sz) := by
  refine Met.ofW (cc := cX12_begins) (maxL := 2) (ret := none) (by decide) rfl ?_
  intro p e s m args below meth c s₁ B0 hml hv
  obtain ⟨rfl, hsz, hP, hK, hD0, hE⟩ := hv
  have hx := B0.exec
  have hb := B0.bytes
  have hr := B0.returns
  have hts0 := atoms_spec (ws := ws_u yX12_begins cX12_begins 2 none) B0.pre
  have hts : ∀ w ∈ gT, w.before _ s = true := fun w h => hts0 w (List.mem_cons_of_mem _ h)
  have hown : s.vm.findClass RX12 = some m.cls := findClass_of_methodNamed B0.named
  have hlocks := B0.notSynchronized
  subst hsz
  have hD := hD0.self (sz := s.heap.size)
  generalize hAe : va_A ws s.heap.size = A at hD ⊢
  have hA : ∀ q : Nat, s.heap.size ≤ q → A q := fun q h => by rw [← hAe]; exact Or.inr h
  have hw : tW (dC, dI) tys κ B A s ws s.heap [] := ⟨hK, hP, hD, va_S.rf, hT⟩
  have hM : Sm [] [63] κ ws ws := Sm.rf
  clear hP hK hD hD0 hts0
  have hl := lv_entry ([.ref a0]) (n := 2) (Nat.le_of_ble_eq_true rfl)
  rw [lg_entry_eq]
  generalize (lg_sl ([.ref a0]) ++ List.replicate (2 - (lg_sl ([.ref a0])).length) Slot.unset).toArray = ls at hl ⊢
  have hl : lv_has ls 2 [(0, .ref a0)] := hl
  refine t_start (fun QQ hQ => ?_)
  refine lv_aload_n hx hb dX12_begins_0 rfl (lv_at hl 0 rfl) ?_
  refine t_getk (ci := 12) (C := RX12) (T := TX12) (N := 38) hx hb hts iX12 hown hw rfl 20 (by decide) (hts _ tw_1145) (fun _ h9 => h9) dX12_begins_1 f_a0_X12_20 ?_
  refine lv_bipush (v := 10) hx hb dX12_begins_4 (by decide) ?_
  refine lv_iconst (v := 0) hx hb dX12_begins_6 (by decide) ?_
  refine t_iast hx hb hw k_f0 rfl rfl (by decide) (by decide) (by rw [iv_63_10]; exact (show 0 ≤ (0 : Int32).toInt by decide)) (by rw [iv_63_10]; exact (show (0 : Int32).toInt ≤ 1999 by decide)) dX12_begins_7 (fun w_1 H locs hw u => ?_)
  have hM := hM.up3 u k_f0 (by decide)
  have f_a0_X12_20 := u.1 _ _ _ _ f_a0_X12_20
  have f_f0_M_said_10 := u.2.2.2
  refine lv_aload_n hx hb dX12_begins_8 rfl (lv_at hl 0 rfl) ?_
  refine t_getk (ci := 12) (C := RX12) (T := TX12) (N := 38) hx hb hts iX12 hown hw rfl 20 (by decide) (hts _ tw_1145) (fun _ h9 => h9) dX12_begins_9 f_a0_X12_20 ?_
  refine lv_bipush (v := 11) hx hb dX12_begins_12 (by decide) ?_
  refine lv_iconst (v := (-1)) hx hb dX12_begins_14 (by decide) ?_
  refine t_iast hx hb hw k_f0 rfl rfl (by decide) (by decide) (by rw [iv_63_11]; exact (show (-1) ≤ ((-1) : Int32).toInt by decide)) (by rw [iv_63_11]; exact (show ((-1) : Int32).toInt ≤ 5 by decide)) dX12_begins_15 (fun w_2 H locs hw u => ?_)
  have hM := hM.up3 u k_f0 (by decide)
  have f_a0_X12_20 := u.1 _ _ _ _ f_a0_X12_20
  have f_f0_M_said_10 := u.2.2.1 _ _ _ f_f0_M_said_10 (Or.inr (by decide))
  have f_f0_M_said_11 := u.2.2.2
  refine lv_aload_n hx hb dX12_begins_16 rfl (lv_at hl 0 rfl) ?_
  refine t_getk (ci := 12) (C := RX12) (T := TX12) (N := 38) hx hb hts iX12 hown hw rfl 20 (by decide) (hts _ tw_1145) (fun _ h9 => h9) dX12_begins_17 f_a0_X12_20 ?_
  refine lv_bipush (v := 12) hx hb dX12_begins_20 (by decide) ?_
  refine lv_iconst (v := (-1)) hx hb dX12_begins_22 (by decide) ?_
  refine t_iast hx hb hw k_f0 rfl rfl (by decide) (by decide) (by rw [iv_63_12]; exact i32_lo _) (by rw [iv_63_12]; exact i32_hi _) dX12_begins_23 (fun w_3 H locs hw u => ?_)
  have hM := hM.up3 u k_f0 (by decide)
  have f_a0_X12_20 := u.1 _ _ _ _ f_a0_X12_20
  have f_f0_M_said_10 := u.2.2.1 _ _ _ f_f0_M_said_10 (Or.inr (by decide))
  have f_f0_M_said_11 := u.2.2.1 _ _ _ f_f0_M_said_11 (Or.inr (by decide))
  have f_f0_M_said_12 := u.2.2.2
  refine lv_aload_n hx hb dX12_begins_24 rfl (lv_at hl 0 rfl) ?_
  refine t_getk (ci := 12) (C := RX12) (T := TX12) (N := 38) hx hb hts iX12 hown hw rfl 20 (by decide) (hts _ tw_1145) (fun _ h9 => h9) dX12_begins_25 f_a0_X12_20 ?_
  refine lv_bipush (v := 13) hx hb dX12_begins_28 (by decide) ?_
  refine lv_iconst (v := 0) hx hb dX12_begins_30 (by decide) ?_
  refine t_iast hx hb hw k_f0 rfl rfl (by decide) (by decide) (by rw [iv_63_13]; exact i32_lo _) (by rw [iv_63_13]; exact i32_hi _) dX12_begins_31 (fun w_4 H locs hw u => ?_)
  have hM := hM.up3 u k_f0 (by decide)
  have f_a0_X12_20 := u.1 _ _ _ _ f_a0_X12_20
  have f_f0_M_said_10 := u.2.2.1 _ _ _ f_f0_M_said_10 (Or.inr (by decide))
  have f_f0_M_said_11 := u.2.2.1 _ _ _ f_f0_M_said_11 (Or.inr (by decide))
  have f_f0_M_said_12 := u.2.2.1 _ _ _ f_f0_M_said_12 (Or.inr (by decide))
  have f_f0_M_said_13 := u.2.2.2
  refine lv_aload_n hx hb dX12_begins_32 rfl (lv_at hl 0 rfl) ?_
  refine t_getk (ci := 12) (C := RX12) (T := TX12) (N := 38) hx hb hts iX12 hown hw rfl 20 (by decide) (hts _ tw_1145) (fun _ h9 => h9) dX12_begins_33 f_a0_X12_20 ?_
  refine lv_bipush (v := 14) hx hb dX12_begins_36 (by decide) ?_
  refine lv_iconst (v := 0) hx hb dX12_begins_38 (by decide) ?_
  refine t_iast hx hb hw k_f0 rfl rfl (by decide) (by decide) (by rw [iv_63_14]; exact i32_lo _) (by rw [iv_63_14]; exact i32_hi _) dX12_begins_39 (fun w_5 H locs hw u => ?_)
  have hM := hM.up3 u k_f0 (by decide)
  have f_a0_X12_20 := u.1 _ _ _ _ f_a0_X12_20
  have f_f0_M_said_10 := u.2.2.1 _ _ _ f_f0_M_said_10 (Or.inr (by decide))
  have f_f0_M_said_11 := u.2.2.1 _ _ _ f_f0_M_said_11 (Or.inr (by decide))
  have f_f0_M_said_12 := u.2.2.1 _ _ _ f_f0_M_said_12 (Or.inr (by decide))
  have f_f0_M_said_13 := u.2.2.1 _ _ _ f_f0_M_said_13 (Or.inr (by decide))
  have f_f0_M_said_14 := u.2.2.2
  refine lv_aload_n hx hb dX12_begins_40 rfl (lv_at hl 0 rfl) ?_
  refine t_getk (ci := 12) (C := RX12) (T := TX12) (N := 38) hx hb hts iX12 hown hw rfl 20 (by decide) (hts _ tw_1145) (fun _ h9 => h9) dX12_begins_41 f_a0_X12_20 ?_
  refine lv_bipush (v := 15) hx hb dX12_begins_44 (by decide) ?_
  refine lv_iconst (v := 0) hx hb dX12_begins_46 (by decide) ?_
  refine t_iast hx hb hw k_f0 rfl rfl (by decide) (by decide) (by rw [iv_63_15]; exact i32_lo _) (by rw [iv_63_15]; exact i32_hi _) dX12_begins_47 (fun w_6 H locs hw u => ?_)
  have hM := hM.up3 u k_f0 (by decide)
  have f_a0_X12_20 := u.1 _ _ _ _ f_a0_X12_20
  have f_f0_M_said_10 := u.2.2.1 _ _ _ f_f0_M_said_10 (Or.inr (by decide))
  have f_f0_M_said_11 := u.2.2.1 _ _ _ f_f0_M_said_11 (Or.inr (by decide))
  have f_f0_M_said_12 := u.2.2.1 _ _ _ f_f0_M_said_12 (Or.inr (by decide))
  have f_f0_M_said_13 := u.2.2.1 _ _ _ f_f0_M_said_13 (Or.inr (by decide))
  have f_f0_M_said_14 := u.2.2.1 _ _ _ f_f0_M_said_14 (Or.inr (by decide))
  have f_f0_M_said_15 := u.2.2.2
  refine lv_iconst (v := 0) hx hb dX12_begins_48 (by decide) ?_
  refine lv_istore_n (lv' := [(1, .int 0), (0, .ref a0)]) hx hb dX12_begins_49 rfl hl (by decide) rfl (fun ls hl => ?_)
  have J50 : ∀ (n : Nat) (H : Heap) (locs : List Loc) (ls : Array Slot), (∃ (w50 : va_W) (p50_l1 : Int32), tW (dC, dI) tys κ B A s w50 H locs ∧ Sm [] [63] κ ws w50 ∧ 0 ≤ p50_l1.toInt ∧ p50_l1.toInt ≤ 6 ∧ fld w50 a0 12 20 (.ref f0) ∧ elt w50 f0 (10 : Int32).toInt.toNat 0 ∧ elt w50 f0 (11 : Int32).toInt.toNat (-1) ∧ elt w50 f0 (12 : Int32).toInt.toNat (-1) ∧ elt w50 f0 (13 : Int32).toInt.toNat 0 ∧ elt w50 f0 (14 : Int32).toInt.toNat 0 ∧ elt w50 f0 (15 : Int32).toInt.toNat 0 ∧ lv_has ls 2 [(0, .ref a0), (1, .int p50_l1)] ∧ (6 - p50_l1.toInt).toNat = n) → W p l e (headSpec (ws_u yX12_begins cX12_begins 2 none) ({ frames := 0, cells := 0, slots := 0, locals := 0 })).room s m ([.ref a0] : List Value).toArray below meth c H locs 0 0 QQ (F0 m 50 ls []) := by
    refine loopT _ ?_
    intro n_50 H locs ls hI ih_50
    obtain ⟨w50, p50_l1, hw, hM, l_p50_l1, h_p50_l1, f_a0_X12_20, f_f0_M_said_10, f_f0_M_said_11, f_f0_M_said_12, f_f0_M_said_13, f_f0_M_said_14, f_f0_M_said_15, hl, hn_50⟩ := hI
    refine lv_iload_n hx hb dX12_begins_50 rfl (lv_at hl 1 rfl) ?_
    refine lv_bipush (v := 6) hx hb dX12_begins_51 (by decide) ?_
    refine lv_icmp_ge (tgt := 124) hx hb dX12_begins_53 (by decide) (fun c_53 => ?_) (fun c_53 => ?_)
    · simp only [fa_lt, fa_le, fa_eq, li_6] at c_53
      refine lv_iconst (v := 0) hx hb dX12_begins_124 (by decide) ?_
      refine lv_istore_n (lv' := [(1, .int 0), (0, .ref a0)]) hx hb dX12_begins_125 rfl hl (by decide) rfl (fun ls hl => ?_)
      have J126 : ∀ (n : Nat) (H : Heap) (locs : List Loc) (ls : Array Slot), (∃ (w126 : va_W) (p126_l1 : Int32), tW (dC, dI) tys κ B A s w126 H locs ∧ Sm [] [63] κ ws w126 ∧ 0 ≤ p126_l1.toInt ∧ p126_l1.toInt ≤ 6 ∧ fld w126 a0 12 20 (.ref f0) ∧ elt w126 f0 (10 : Int32).toInt.toNat 0 ∧ elt w126 f0 (11 : Int32).toInt.toNat (-1) ∧ elt w126 f0 (12 : Int32).toInt.toNat (-1) ∧ elt w126 f0 (13 : Int32).toInt.toNat 0 ∧ elt w126 f0 (14 : Int32).toInt.toNat 0 ∧ elt w126 f0 (15 : Int32).toInt.toNat 0 ∧ lv_has ls 2 [(0, .ref a0), (1, .int p126_l1)] ∧ (6 - p126_l1.toInt).toNat = n) → W p l e (headSpec (ws_u yX12_begins cX12_begins 2 none) ({ frames := 0, cells := 0, slots := 0, locals := 0 })).room s m ([.ref a0] : List Value).toArray below meth c H locs 0 0 QQ (F0 m 126 ls []) := by
        refine loopT _ ?_
        intro n_126 H locs ls hI ih_126
        obtain ⟨w126, p126_l1, hw, hM, l_p126_l1, h_p126_l1, f_a0_X12_20, f_f0_M_said_10, f_f0_M_said_11, f_f0_M_said_12, f_f0_M_said_13, f_f0_M_said_14, f_f0_M_said_15, hl, hn_126⟩ := hI
        refine lv_iload_n hx hb dX12_begins_126 rfl (lv_at hl 1 rfl) ?_
        refine lv_bipush (v := 6) hx hb dX12_begins_127 (by decide) ?_
        refine lv_icmp_ge (tgt := 158) hx hb dX12_begins_129 (by decide) (fun c_129 => ?_) (fun c_129 => ?_)
        · simp only [fa_lt, fa_le, fa_eq, li_6] at c_129
          refine lv_iconst (v := 0) hx hb dX12_begins_158 (by decide) ?_
          refine lv_istore_n (lv' := [(1, .int 0), (0, .ref a0)]) hx hb dX12_begins_159 rfl hl (by decide) rfl (fun ls hl => ?_)
          have J160 : ∀ (n : Nat) (H : Heap) (locs : List Loc) (ls : Array Slot), (∃ (w160 : va_W) (p160_l1 : Int32), tW (dC, dI) tys κ B A s w160 H locs ∧ Sm [] [63] κ ws w160 ∧ 0 ≤ p160_l1.toInt ∧ p160_l1.toInt ≤ 4 ∧ fld w160 a0 12 20 (.ref f0) ∧ elt w160 f0 (10 : Int32).toInt.toNat 0 ∧ elt w160 f0 (11 : Int32).toInt.toNat (-1) ∧ elt w160 f0 (12 : Int32).toInt.toNat (-1) ∧ elt w160 f0 (13 : Int32).toInt.toNat 0 ∧ elt w160 f0 (14 : Int32).toInt.toNat 0 ∧ elt w160 f0 (15 : Int32).toInt.toNat 0 ∧ lv_has ls 2 [(0, .ref a0), (1, .int p160_l1)] ∧ (4 - p160_l1.toInt).toNat = n) → W p l e (headSpec (ws_u yX12_begins cX12_begins 2 none) ({ frames := 0, cells := 0, slots := 0, locals := 0 })).room s m ([.ref a0] : List Value).toArray below meth c H locs 0 0 QQ (F0 m 160 ls []) := by
            refine loopT _ ?_
            intro n_160 H locs ls hI ih_160
            obtain ⟨w160, p160_l1, hw, hM, l_p160_l1, h_p160_l1, f_a0_X12_20, f_f0_M_said_10, f_f0_M_said_11, f_f0_M_said_12, f_f0_M_said_13, f_f0_M_said_14, f_f0_M_said_15, hl, hn_160⟩ := hI
            refine lv_iload_n hx hb dX12_begins_160 rfl (lv_at hl 1 rfl) ?_
            refine lv_iconst (v := 4) hx hb dX12_begins_161 (by decide) ?_
            refine lv_icmp_ge (tgt := 219) hx hb dX12_begins_162 (by decide) (fun c_162 => ?_) (fun c_162 => ?_)
            · simp only [fa_lt, fa_le, fa_eq, li_4] at c_162
              rw [hQ]
              refine W.widen (k := 0) (n := 0) (Nat.le_refl _) (Nat.le_refl _) ?_
              exact W.vret hx hb hr (fun t ht hW => ⟨⟨w160, rfl, ⟨hw.2.2.2.2, hM, ⟨(0 : Int32), (by decide), (by decide), f_f0_M_said_10⟩⟩, by rw [ht]; exact hw.2.1, va_K.moved hW.alike hw.1, hw.2.2.1⟩, hw.2.2.2.1.F ht⟩) hw.2.2.2.1.2.2 dX12_begins_219
            · simp only [fa_lt, fa_le, fa_eq, li_4] at c_162
              refine lv_aload_n hx hb dX12_begins_165 rfl (lv_at hl 0 rfl) ?_
              refine t_getk (ci := 12) (C := RX12) (T := TX12) (N := 38) hx hb hts iX12 hown hw rfl 20 (by decide) (hts _ tw_1145) (fun _ h9 => h9) dX12_begins_166 f_a0_X12_20 ?_
              refine lv_bipush (v := 40) hx hb dX12_begins_169 (by decide) ?_
              refine lv_iconst (v := 3) hx hb dX12_begins_171 (by decide) ?_
              refine lv_iload_n hx hb dX12_begins_172 rfl (lv_at hl 1 rfl) ?_
              refine lv_imul hx hb dX12_begins_173 ?_
              refine lv_topi (fun v173 e_v173 => ?_)
              have e_v173 : v173.toInt = 3 * p160_l1.toInt := ml_i e_v173 li_3 rfl (by omega) (by omega)
              refine lv_iadd hx hb dX12_begins_174 ?_
              refine lv_topi (fun v174 e_v174 => ?_)
              have e_v174 : v174.toInt = 40 + v173.toInt := ad_i e_v174 li_40 rfl (by omega) (by omega)
              refine lv_aload_n hx hb dX12_begins_175 rfl (lv_at hl 0 rfl) ?_
              refine t_getk (ci := 12) (C := RX12) (T := TX12) (N := 38) hx hb hts iX12 hown hw rfl 20 (by decide) (hts _ tw_1145) (fun _ h9 => h9) dX12_begins_176 f_a0_X12_20 ?_
              refine lv_bipush (v := 106) hx hb dX12_begins_179 (by decide) ?_
              refine lv_iload_n hx hb dX12_begins_181 rfl (lv_at hl 1 rfl) ?_
              refine lv_iadd hx hb dX12_begins_182 ?_
              refine lv_topi (fun v182 e_v182 => ?_)
              have e_v182 : v182.toInt = 106 + p160_l1.toInt := ad_i e_v182 li_106 rfl (by omega) (by omega)
              refine t_iald hx hb hw k_f0 rfl rfl (by omega) (show v182.toInt < 306 by omega) dX12_begins_183 (fun v183 r_v183 s_v183 q_v183 => ?_)
              have l_v183 := i32_lo v183
              have h_v183 := i32_hi v183
              refine t_iast hx hb hw k_f0 rfl rfl (by omega) (show v174.toInt < 306 by omega) (by rw [fr_63 (by omega) (by omega)]; exact i32_lo _) (by rw [fr_63 (by omega) (by omega)]; exact i32_hi _) dX12_begins_184 (fun w_7 H locs hw u => ?_)
              have hM := hM.up3 u k_f0 (by decide)
              have f_a0_X12_20 := u.1 _ _ _ _ f_a0_X12_20
              have f_f0_M_said_10 := u.2.2.1 _ _ _ f_f0_M_said_10 (Or.inr (by rw [show (10 : Int32).toInt.toNat = 10 by decide]; omega))
              have f_f0_M_said_11 := u.2.2.1 _ _ _ f_f0_M_said_11 (Or.inr (by rw [show (11 : Int32).toInt.toNat = 11 by decide]; omega))
              have f_f0_M_said_12 := u.2.2.1 _ _ _ f_f0_M_said_12 (Or.inr (by rw [show (12 : Int32).toInt.toNat = 12 by decide]; omega))
              have f_f0_M_said_13 := u.2.2.1 _ _ _ f_f0_M_said_13 (Or.inr (by rw [show (13 : Int32).toInt.toNat = 13 by decide]; omega))
              have f_f0_M_said_14 := u.2.2.1 _ _ _ f_f0_M_said_14 (Or.inr (by rw [show (14 : Int32).toInt.toNat = 14 by decide]; omega))
              have f_f0_M_said_15 := u.2.2.1 _ _ _ f_f0_M_said_15 (Or.inr (by rw [show (15 : Int32).toInt.toNat = 15 by decide]; omega))
              refine lv_aload_n hx hb dX12_begins_185 rfl (lv_at hl 0 rfl) ?_
              refine t_getk (ci := 12) (C := RX12) (T := TX12) (N := 38) hx hb hts iX12 hown hw rfl 20 (by decide) (hts _ tw_1145) (fun _ h9 => h9) dX12_begins_186 f_a0_X12_20 ?_
              refine lv_bipush (v := 40) hx hb dX12_begins_189 (by decide) ?_
              refine lv_iconst (v := 3) hx hb dX12_begins_191 (by decide) ?_
              refine lv_iload_n hx hb dX12_begins_192 rfl (lv_at hl 1 rfl) ?_
              refine lv_imul hx hb dX12_begins_193 ?_
              refine lv_topi (fun v193 e_v193 => ?_)
              have e_v193 : v193.toInt = 3 * p160_l1.toInt := ml_i e_v193 li_3 rfl (by omega) (by omega)
              refine lv_iadd hx hb dX12_begins_194 ?_
              refine lv_topi (fun v194 e_v194 => ?_)
              have e_v194 : v194.toInt = 40 + v193.toInt := ad_i e_v194 li_40 rfl (by omega) (by omega)
              refine lv_iconst (v := 1) hx hb dX12_begins_195 (by decide) ?_
              refine lv_iadd hx hb dX12_begins_196 ?_
              refine lv_topi (fun v196 e_v196 => ?_)
              have e_v196 : v196.toInt = v194.toInt + 1 := ad_i e_v196 rfl li_1 (by omega) (by omega)
              refine lv_iconst (v := 0) hx hb dX12_begins_197 (by decide) ?_
              refine t_iast hx hb hw k_f0 rfl rfl (by omega) (show v196.toInt < 306 by omega) (by rw [fr_63 (by omega) (by omega)]; exact i32_lo _) (by rw [fr_63 (by omega) (by omega)]; exact i32_hi _) dX12_begins_198 (fun w_8 H locs hw u => ?_)
              have hM := hM.up3 u k_f0 (by decide)
              have f_a0_X12_20 := u.1 _ _ _ _ f_a0_X12_20
              have f_f0_M_said_10 := u.2.2.1 _ _ _ f_f0_M_said_10 (Or.inr (by rw [show (10 : Int32).toInt.toNat = 10 by decide]; omega))
              have f_f0_M_said_11 := u.2.2.1 _ _ _ f_f0_M_said_11 (Or.inr (by rw [show (11 : Int32).toInt.toNat = 11 by decide]; omega))
              have f_f0_M_said_12 := u.2.2.1 _ _ _ f_f0_M_said_12 (Or.inr (by rw [show (12 : Int32).toInt.toNat = 12 by decide]; omega))
              have f_f0_M_said_13 := u.2.2.1 _ _ _ f_f0_M_said_13 (Or.inr (by rw [show (13 : Int32).toInt.toNat = 13 by decide]; omega))
              have f_f0_M_said_14 := u.2.2.1 _ _ _ f_f0_M_said_14 (Or.inr (by rw [show (14 : Int32).toInt.toNat = 14 by decide]; omega))
              have f_f0_M_said_15 := u.2.2.1 _ _ _ f_f0_M_said_15 (Or.inr (by rw [show (15 : Int32).toInt.toNat = 15 by decide]; omega))
              refine lv_aload_n hx hb dX12_begins_199 rfl (lv_at hl 0 rfl) ?_
              refine t_getk (ci := 12) (C := RX12) (T := TX12) (N := 38) hx hb hts iX12 hown hw rfl 20 (by decide) (hts _ tw_1145) (fun _ h9 => h9) dX12_begins_200 f_a0_X12_20 ?_
              refine lv_bipush (v := 40) hx hb dX12_begins_203 (by decide) ?_
              refine lv_iconst (v := 3) hx hb dX12_begins_205 (by decide) ?_
              refine lv_iload_n hx hb dX12_begins_206 rfl (lv_at hl 1 rfl) ?_
              refine lv_imul hx hb dX12_begins_207 ?_
              refine lv_topi (fun v207 e_v207 => ?_)
              have e_v207 : v207.toInt = 3 * p160_l1.toInt := ml_i e_v207 li_3 rfl (by omega) (by omega)
              refine lv_iadd hx hb dX12_begins_208 ?_
              refine lv_topi (fun v208 e_v208 => ?_)
              have e_v208 : v208.toInt = 40 + v207.toInt := ad_i e_v208 li_40 rfl (by omega) (by omega)
              refine lv_iconst (v := 2) hx hb dX12_begins_209 (by decide) ?_
              refine lv_iadd hx hb dX12_begins_210 ?_
              refine lv_topi (fun v210 e_v210 => ?_)
              have e_v210 : v210.toInt = v208.toInt + 2 := ad_i e_v210 rfl li_2 (by omega) (by omega)
              refine lv_iconst (v := (-1)) hx hb dX12_begins_211 (by decide) ?_
              refine t_iast hx hb hw k_f0 rfl rfl (by omega) (show v210.toInt < 306 by omega) (by rw [fr_63 (by omega) (by omega)]; exact i32_lo _) (by rw [fr_63 (by omega) (by omega)]; exact i32_hi _) dX12_begins_212 (fun w_9 H locs hw u => ?_)
              have hM := hM.up3 u k_f0 (by decide)
              have f_a0_X12_20 := u.1 _ _ _ _ f_a0_X12_20
              have f_f0_M_said_10 := u.2.2.1 _ _ _ f_f0_M_said_10 (Or.inr (by rw [show (10 : Int32).toInt.toNat = 10 by decide]; omega))
              have f_f0_M_said_11 := u.2.2.1 _ _ _ f_f0_M_said_11 (Or.inr (by rw [show (11 : Int32).toInt.toNat = 11 by decide]; omega))
              have f_f0_M_said_12 := u.2.2.1 _ _ _ f_f0_M_said_12 (Or.inr (by rw [show (12 : Int32).toInt.toNat = 12 by decide]; omega))
              have f_f0_M_said_13 := u.2.2.1 _ _ _ f_f0_M_said_13 (Or.inr (by rw [show (13 : Int32).toInt.toNat = 13 by decide]; omega))
              have f_f0_M_said_14 := u.2.2.1 _ _ _ f_f0_M_said_14 (Or.inr (by rw [show (14 : Int32).toInt.toNat = 14 by decide]; omega))
              have f_f0_M_said_15 := u.2.2.1 _ _ _ f_f0_M_said_15 (Or.inr (by rw [show (15 : Int32).toInt.toNat = 15 by decide]; omega))
              obtain ⟨v213, e_v213⟩ : ∃ y : Int32, y = p160_l1 + 1 := ⟨_, rfl⟩
              refine lv_iinc (v := v213) (lv' := [(1, .int v213), (0, .ref a0)]) hx hb dX12_begins_213 hl (k := 1) rfl e_v213.symm (by decide) rfl (fun ls hl => ?_)
              have e_v213 : v213.toInt = p160_l1.toInt + 1 := ad_i e_v213 rfl li_1 (by omega) (by omega)
              refine lv_goto (tgt := 160) hx hb dX12_begins_216 (by decide) ?_
              exact ih_160 _ _ _ _ (by omega) ⟨w_9, v213, hw, hM, (by omega), (by omega), f_a0_X12_20, f_f0_M_said_10, f_f0_M_said_11, f_f0_M_said_12, f_f0_M_said_13, f_f0_M_said_14, f_f0_M_said_15, (lv_sub hl [1, 0] rfl), rfl⟩
          exact J160 _ _ _ _ ⟨w126, 0, hw, hM, (by decide), (by decide), f_a0_X12_20, f_f0_M_said_10, f_f0_M_said_11, f_f0_M_said_12, f_f0_M_said_13, f_f0_M_said_14, f_f0_M_said_15, (lv_sub hl [1, 0] rfl), rfl⟩
        · simp only [fa_lt, fa_le, fa_eq, li_6] at c_129
          refine lv_aload_n hx hb dX12_begins_132 rfl (lv_at hl 0 rfl) ?_
          refine t_getk (ci := 12) (C := RX12) (T := TX12) (N := 38) hx hb hts iX12 hown hw rfl 20 (by decide) (hts _ tw_1145) (fun _ h9 => h9) dX12_begins_133 f_a0_X12_20 ?_
          refine lv_bipush (v := 34) hx hb dX12_begins_136 (by decide) ?_
          refine lv_iload_n hx hb dX12_begins_138 rfl (lv_at hl 1 rfl) ?_
          refine lv_iadd hx hb dX12_begins_139 ?_
          refine lv_topi (fun v139 e_v139 => ?_)
          have e_v139 : v139.toInt = 34 + p126_l1.toInt := ad_i e_v139 li_34 rfl (by omega) (by omega)
          refine lv_aload_n hx hb dX12_begins_140 rfl (lv_at hl 0 rfl) ?_
          refine t_getk (ci := 12) (C := RX12) (T := TX12) (N := 38) hx hb hts iX12 hown hw rfl 20 (by decide) (hts _ tw_1145) (fun _ h9 => h9) dX12_begins_141 f_a0_X12_20 ?_
          refine lv_bipush (v := 114) hx hb dX12_begins_144 (by decide) ?_
          refine lv_iconst (v := 2) hx hb dX12_begins_146 (by decide) ?_
          refine lv_iload_n hx hb dX12_begins_147 rfl (lv_at hl 1 rfl) ?_
          refine lv_imul hx hb dX12_begins_148 ?_
          refine lv_topi (fun v148 e_v148 => ?_)
          have e_v148 : v148.toInt = 2 * p126_l1.toInt := ml_i e_v148 li_2 rfl (by omega) (by omega)
          refine lv_iadd hx hb dX12_begins_149 ?_
          refine lv_topi (fun v149 e_v149 => ?_)
          have e_v149 : v149.toInt = 114 + v148.toInt := ad_i e_v149 li_114 rfl (by omega) (by omega)
          refine t_iald hx hb hw k_f0 rfl rfl (by omega) (show v149.toInt < 306 by omega) dX12_begins_150 (fun v150 r_v150 s_v150 q_v150 => ?_)
          have l_v150 := i32_lo v150
          have h_v150 := i32_hi v150
          refine t_iast hx hb hw k_f0 rfl rfl (by omega) (show v139.toInt < 306 by omega) (by rw [fr_63 (by omega) (by omega)]; exact i32_lo _) (by rw [fr_63 (by omega) (by omega)]; exact i32_hi _) dX12_begins_151 (fun w_10 H locs hw u => ?_)
          have hM := hM.up3 u k_f0 (by decide)
          have f_a0_X12_20 := u.1 _ _ _ _ f_a0_X12_20
          have f_f0_M_said_10 := u.2.2.1 _ _ _ f_f0_M_said_10 (Or.inr (by rw [show (10 : Int32).toInt.toNat = 10 by decide]; omega))
          have f_f0_M_said_11 := u.2.2.1 _ _ _ f_f0_M_said_11 (Or.inr (by rw [show (11 : Int32).toInt.toNat = 11 by decide]; omega))
          have f_f0_M_said_12 := u.2.2.1 _ _ _ f_f0_M_said_12 (Or.inr (by rw [show (12 : Int32).toInt.toNat = 12 by decide]; omega))
          have f_f0_M_said_13 := u.2.2.1 _ _ _ f_f0_M_said_13 (Or.inr (by rw [show (13 : Int32).toInt.toNat = 13 by decide]; omega))
          have f_f0_M_said_14 := u.2.2.1 _ _ _ f_f0_M_said_14 (Or.inr (by rw [show (14 : Int32).toInt.toNat = 14 by decide]; omega))
          have f_f0_M_said_15 := u.2.2.1 _ _ _ f_f0_M_said_15 (Or.inr (by rw [show (15 : Int32).toInt.toNat = 15 by decide]; omega))
          obtain ⟨v152, e_v152⟩ : ∃ y : Int32, y = p126_l1 + 1 := ⟨_, rfl⟩
          refine lv_iinc (v := v152) (lv' := [(1, .int v152), (0, .ref a0)]) hx hb dX12_begins_152 hl (k := 1) rfl e_v152.symm (by decide) rfl (fun ls hl => ?_)
          have e_v152 : v152.toInt = p126_l1.toInt + 1 := ad_i e_v152 rfl li_1 (by omega) (by omega)
          refine lv_goto (tgt := 126) hx hb dX12_begins_155 (by decide) ?_
          exact ih_126 _ _ _ _ (by omega) ⟨w_10, v152, hw, hM, (by omega), (by omega), f_a0_X12_20, f_f0_M_said_10, f_f0_M_said_11, f_f0_M_said_12, f_f0_M_said_13, f_f0_M_said_14, f_f0_M_said_15, (lv_sub hl [1, 0] rfl), rfl⟩
      exact J126 _ _ _ _ ⟨w50, 0, hw, hM, (by decide), (by decide), f_a0_X12_20, f_f0_M_said_10, f_f0_M_said_11, f_f0_M_said_12, f_f0_M_said_13, f_f0_M_said_14, f_f0_M_said_15, (lv_sub hl [1, 0] rfl), rfl⟩
    · simp only [fa_lt, fa_le, fa_eq, li_6] at c_53
      refine lv_aload_n hx hb dX12_begins_56 rfl (lv_at hl 0 rfl) ?_
      refine t_getk (ci := 12) (C := RX12) (T := TX12) (N := 38) hx hb hts iX12 hown hw rfl 20 (by decide) (hts _ tw_1145) (fun _ h9 => h9) dX12_begins_57 f_a0_X12_20 ?_
      refine lv_bipush (v := 16) hx hb dX12_begins_60 (by decide) ?_
      refine lv_iconst (v := 3) hx hb dX12_begins_62 (by decide) ?_
      refine lv_iload_n hx hb dX12_begins_63 rfl (lv_at hl 1 rfl) ?_
      refine lv_imul hx hb dX12_begins_64 ?_
      refine lv_topi (fun v64 e_v64 => ?_)
      have e_v64 : v64.toInt = 3 * p50_l1.toInt := ml_i e_v64 li_3 rfl (by omega) (by omega)
      refine lv_iadd hx hb dX12_begins_65 ?_
      refine lv_topi (fun v65 e_v65 => ?_)
      have e_v65 : v65.toInt = 16 + v64.toInt := ad_i e_v65 li_16 rfl (by omega) (by omega)
      refine lv_aload_n hx hb dX12_begins_66 rfl (lv_at hl 0 rfl) ?_
      refine t_getk (ci := 12) (C := RX12) (T := TX12) (N := 38) hx hb hts iX12 hown hw rfl 20 (by decide) (hts _ tw_1145) (fun _ h9 => h9) dX12_begins_67 f_a0_X12_20 ?_
      refine lv_bipush (v := 58) hx hb dX12_begins_70 (by decide) ?_
      refine lv_iconst (v := 2) hx hb dX12_begins_72 (by decide) ?_
      refine lv_iload_n hx hb dX12_begins_73 rfl (lv_at hl 1 rfl) ?_
      refine lv_imul hx hb dX12_begins_74 ?_
      refine lv_topi (fun v74 e_v74 => ?_)
      have e_v74 : v74.toInt = 2 * p50_l1.toInt := ml_i e_v74 li_2 rfl (by omega) (by omega)
      refine lv_iadd hx hb dX12_begins_75 ?_
      refine lv_topi (fun v75 e_v75 => ?_)
      have e_v75 : v75.toInt = 58 + v74.toInt := ad_i e_v75 li_58 rfl (by omega) (by omega)
      refine t_iald hx hb hw k_f0 rfl rfl (by omega) (show v75.toInt < 306 by omega) dX12_begins_76 (fun v76 r_v76 s_v76 q_v76 => ?_)
      have l_v76 := i32_lo v76
      have h_v76 := i32_hi v76
      refine t_iast hx hb hw k_f0 rfl rfl (by omega) (show v65.toInt < 306 by omega) (by rw [fr_63 (by omega) (by omega)]; exact i32_lo _) (by rw [fr_63 (by omega) (by omega)]; exact i32_hi _) dX12_begins_77 (fun w_11 H locs hw u => ?_)
      have hM := hM.up3 u k_f0 (by decide)
      have f_a0_X12_20 := u.1 _ _ _ _ f_a0_X12_20
      have f_f0_M_said_10 := u.2.2.1 _ _ _ f_f0_M_said_10 (Or.inr (by rw [show (10 : Int32).toInt.toNat = 10 by decide]; omega))
      have f_f0_M_said_11 := u.2.2.1 _ _ _ f_f0_M_said_11 (Or.inr (by rw [show (11 : Int32).toInt.toNat = 11 by decide]; omega))
      have f_f0_M_said_12 := u.2.2.1 _ _ _ f_f0_M_said_12 (Or.inr (by rw [show (12 : Int32).toInt.toNat = 12 by decide]; omega))
      have f_f0_M_said_13 := u.2.2.1 _ _ _ f_f0_M_said_13 (Or.inr (by rw [show (13 : Int32).toInt.toNat = 13 by decide]; omega))
      have f_f0_M_said_14 := u.2.2.1 _ _ _ f_f0_M_said_14 (Or.inr (by rw [show (14 : Int32).toInt.toNat = 14 by decide]; omega))
      have f_f0_M_said_15 := u.2.2.1 _ _ _ f_f0_M_said_15 (Or.inr (by rw [show (15 : Int32).toInt.toNat = 15 by decide]; omega))
      refine lv_aload_n hx hb dX12_begins_78 rfl (lv_at hl 0 rfl) ?_
      refine t_getk (ci := 12) (C := RX12) (T := TX12) (N := 38) hx hb hts iX12 hown hw rfl 20 (by decide) (hts _ tw_1145) (fun _ h9 => h9) dX12_begins_79 f_a0_X12_20 ?_
      refine lv_bipush (v := 16) hx hb dX12_begins_82 (by decide) ?_
      refine lv_iconst (v := 3) hx hb dX12_begins_84 (by decide) ?_
      refine lv_iload_n hx hb dX12_begins_85 rfl (lv_at hl 1 rfl) ?_
      refine lv_imul hx hb dX12_begins_86 ?_
      refine lv_topi (fun v86 e_v86 => ?_)
      have e_v86 : v86.toInt = 3 * p50_l1.toInt := ml_i e_v86 li_3 rfl (by omega) (by omega)
      refine lv_iadd hx hb dX12_begins_87 ?_
      refine lv_topi (fun v87 e_v87 => ?_)
      have e_v87 : v87.toInt = 16 + v86.toInt := ad_i e_v87 li_16 rfl (by omega) (by omega)
      refine lv_iconst (v := 1) hx hb dX12_begins_88 (by decide) ?_
      refine lv_iadd hx hb dX12_begins_89 ?_
      refine lv_topi (fun v89 e_v89 => ?_)
      have e_v89 : v89.toInt = v87.toInt + 1 := ad_i e_v89 rfl li_1 (by omega) (by omega)
      refine lv_aload_n hx hb dX12_begins_90 rfl (lv_at hl 0 rfl) ?_
      refine t_getk (ci := 12) (C := RX12) (T := TX12) (N := 38) hx hb hts iX12 hown hw rfl 20 (by decide) (hts _ tw_1145) (fun _ h9 => h9) dX12_begins_91 f_a0_X12_20 ?_
      refine lv_bipush (v := 58) hx hb dX12_begins_94 (by decide) ?_
      refine lv_iconst (v := 2) hx hb dX12_begins_96 (by decide) ?_
      refine lv_iload_n hx hb dX12_begins_97 rfl (lv_at hl 1 rfl) ?_
      refine lv_imul hx hb dX12_begins_98 ?_
      refine lv_topi (fun v98 e_v98 => ?_)
      have e_v98 : v98.toInt = 2 * p50_l1.toInt := ml_i e_v98 li_2 rfl (by omega) (by omega)
      refine lv_iadd hx hb dX12_begins_99 ?_
      refine lv_topi (fun v99 e_v99 => ?_)
      have e_v99 : v99.toInt = 58 + v98.toInt := ad_i e_v99 li_58 rfl (by omega) (by omega)
      refine lv_iconst (v := 1) hx hb dX12_begins_100 (by decide) ?_
      refine lv_iadd hx hb dX12_begins_101 ?_
      refine lv_topi (fun v101 e_v101 => ?_)
      have e_v101 : v101.toInt = v99.toInt + 1 := ad_i e_v101 rfl li_1 (by omega) (by omega)
      refine t_iald hx hb hw k_f0 rfl rfl (by omega) (show v101.toInt < 306 by omega) dX12_begins_102 (fun v102 r_v102 s_v102 q_v102 => ?_)
      have l_v102 := i32_lo v102
      have h_v102 := i32_hi v102
      refine t_iast hx hb hw k_f0 rfl rfl (by omega) (show v89.toInt < 306 by omega) (by rw [fr_63 (by omega) (by omega)]; exact i32_lo _) (by rw [fr_63 (by omega) (by omega)]; exact i32_hi _) dX12_begins_103 (fun w_12 H locs hw u => ?_)
      have hM := hM.up3 u k_f0 (by decide)
      have f_a0_X12_20 := u.1 _ _ _ _ f_a0_X12_20
      have f_f0_M_said_10 := u.2.2.1 _ _ _ f_f0_M_said_10 (Or.inr (by rw [show (10 : Int32).toInt.toNat = 10 by decide]; omega))
      have f_f0_M_said_11 := u.2.2.1 _ _ _ f_f0_M_said_11 (Or.inr (by rw [show (11 : Int32).toInt.toNat = 11 by decide]; omega))
      have f_f0_M_said_12 := u.2.2.1 _ _ _ f_f0_M_said_12 (Or.inr (by rw [show (12 : Int32).toInt.toNat = 12 by decide]; omega))
      have f_f0_M_said_13 := u.2.2.1 _ _ _ f_f0_M_said_13 (Or.inr (by rw [show (13 : Int32).toInt.toNat = 13 by decide]; omega))
      have f_f0_M_said_14 := u.2.2.1 _ _ _ f_f0_M_said_14 (Or.inr (by rw [show (14 : Int32).toInt.toNat = 14 by decide]; omega))
      have f_f0_M_said_15 := u.2.2.1 _ _ _ f_f0_M_said_15 (Or.inr (by rw [show (15 : Int32).toInt.toNat = 15 by decide]; omega))
      refine lv_aload_n hx hb dX12_begins_104 rfl (lv_at hl 0 rfl) ?_
      refine t_getk (ci := 12) (C := RX12) (T := TX12) (N := 38) hx hb hts iX12 hown hw rfl 20 (by decide) (hts _ tw_1145) (fun _ h9 => h9) dX12_begins_105 f_a0_X12_20 ?_
      refine lv_bipush (v := 16) hx hb dX12_begins_108 (by decide) ?_
      refine lv_iconst (v := 3) hx hb dX12_begins_110 (by decide) ?_
      refine lv_iload_n hx hb dX12_begins_111 rfl (lv_at hl 1 rfl) ?_
      refine lv_imul hx hb dX12_begins_112 ?_
      refine lv_topi (fun v112 e_v112 => ?_)
      have e_v112 : v112.toInt = 3 * p50_l1.toInt := ml_i e_v112 li_3 rfl (by omega) (by omega)
      refine lv_iadd hx hb dX12_begins_113 ?_
      refine lv_topi (fun v113 e_v113 => ?_)
      have e_v113 : v113.toInt = 16 + v112.toInt := ad_i e_v113 li_16 rfl (by omega) (by omega)
      refine lv_iconst (v := 2) hx hb dX12_begins_114 (by decide) ?_
      refine lv_iadd hx hb dX12_begins_115 ?_
      refine lv_topi (fun v115 e_v115 => ?_)
      have e_v115 : v115.toInt = v113.toInt + 2 := ad_i e_v115 rfl li_2 (by omega) (by omega)
      refine lv_iconst (v := 0) hx hb dX12_begins_116 (by decide) ?_
      refine t_iast hx hb hw k_f0 rfl rfl (by omega) (show v115.toInt < 306 by omega) (by rw [fr_63 (by omega) (by omega)]; exact i32_lo _) (by rw [fr_63 (by omega) (by omega)]; exact i32_hi _) dX12_begins_117 (fun w_13 H locs hw u => ?_)
      have hM := hM.up3 u k_f0 (by decide)
      have f_a0_X12_20 := u.1 _ _ _ _ f_a0_X12_20
      have f_f0_M_said_10 := u.2.2.1 _ _ _ f_f0_M_said_10 (Or.inr (by rw [show (10 : Int32).toInt.toNat = 10 by decide]; omega))
      have f_f0_M_said_11 := u.2.2.1 _ _ _ f_f0_M_said_11 (Or.inr (by rw [show (11 : Int32).toInt.toNat = 11 by decide]; omega))
      have f_f0_M_said_12 := u.2.2.1 _ _ _ f_f0_M_said_12 (Or.inr (by rw [show (12 : Int32).toInt.toNat = 12 by decide]; omega))
      have f_f0_M_said_13 := u.2.2.1 _ _ _ f_f0_M_said_13 (Or.inr (by rw [show (13 : Int32).toInt.toNat = 13 by decide]; omega))
      have f_f0_M_said_14 := u.2.2.1 _ _ _ f_f0_M_said_14 (Or.inr (by rw [show (14 : Int32).toInt.toNat = 14 by decide]; omega))
      have f_f0_M_said_15 := u.2.2.1 _ _ _ f_f0_M_said_15 (Or.inr (by rw [show (15 : Int32).toInt.toNat = 15 by decide]; omega))
      obtain ⟨v118, e_v118⟩ : ∃ y : Int32, y = p50_l1 + 1 := ⟨_, rfl⟩
      refine lv_iinc (v := v118) (lv' := [(1, .int v118), (0, .ref a0)]) hx hb dX12_begins_118 hl (k := 1) rfl e_v118.symm (by decide) rfl (fun ls hl => ?_)
      have e_v118 : v118.toInt = p50_l1.toInt + 1 := ad_i e_v118 rfl li_1 (by omega) (by omega)
      refine lv_goto (tgt := 50) hx hb dX12_begins_121 (by decide) ?_
      exact ih_50 _ _ _ _ (by omega) ⟨w_13, v118, hw, hM, (by omega), (by omega), f_a0_X12_20, f_f0_M_said_10, f_f0_M_said_11, f_f0_M_said_12, f_f0_M_said_13, f_f0_M_said_14, f_f0_M_said_15, (lv_sub hl [1, 0] rfl), rfl⟩
  exact J50 _ _ _ _ ⟨w_6, 0, hw, hM, (by decide), (by decide), f_a0_X12_20, f_f0_M_said_10, f_f0_M_said_11, f_f0_M_said_12, f_f0_M_said_13, f_f0_M_said_14, f_f0_M_said_15, (lv_sub hl [1, 0] rfl), rfl⟩
