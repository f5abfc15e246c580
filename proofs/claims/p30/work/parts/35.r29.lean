theorem ts_3_14 : Cond.selects "BoyBishopModel" ⟨"BoyBishopModel", "isBoyHere", "(I)Z"⟩ ⟨"BoyBishopModel", "isBoyHere", "(I)Z"⟩ ∈ gT := gT_in (List.mem_append_left _ (List.mem_map.mpr ⟨(⟨"BoyBishopModel", "isBoyHere", "(I)Z"⟩, 38), (List.mem_append_right _ (List.mem_append_right _ (List.mem_append_right _ (List.mem_append_left _ (List.mem_of_getElem? (i := 14) rfl))))), rfl⟩)) rfl
theorem ts_3_15 : Cond.selects "BoyBishopModel" ⟨"BoyBishopModel", "areLikesHere", "()Z"⟩ ⟨"BoyBishopModel", "areLikesHere", "()Z"⟩ ∈ gT := gT_in (List.mem_append_left _ (List.mem_map.mpr ⟨(⟨"BoyBishopModel", "areLikesHere", "()Z"⟩, 38), (List.mem_append_right _ (List.mem_append_right _ (List.mem_append_right _ (List.mem_append_left _ (List.mem_of_getElem? (i := 15) rfl))))), rfl⟩)) rfl
theorem ts_3_5 : Cond.selects "BoyBishopModel" ⟨"BoyBishopModel", "isWord", "(J)Z"⟩ ⟨"BoyBishopModel", "isWord", "(J)Z"⟩ ∈ gT := gT_in (List.mem_append_left _ (List.mem_map.mpr ⟨(⟨"BoyBishopModel", "isWord", "(J)Z"⟩, 38), (List.mem_append_right _ (List.mem_append_right _ (List.mem_append_right _ (List.mem_append_left _ (List.mem_of_getElem? (i := 5) rfl))))), rfl⟩)) rfl
theorem ts_3_9 : Cond.selects "BoyBishopModel" ⟨"BoyBishopModel", "isChoirHere", "(I)Z"⟩ ⟨"BoyBishopModel", "isChoirHere", "(I)Z"⟩ ∈ gT := gT_in (List.mem_append_left _ (List.mem_map.mpr ⟨(⟨"BoyBishopModel", "isChoirHere", "(I)Z"⟩, 38), (List.mem_append_right _ (List.mem_append_right _ (List.mem_append_right _ (List.mem_append_left _ (List.mem_of_getElem? (i := 9) rfl))))), rfl⟩)) rfl
theorem ts_4_0 : Cond.selects "BoyBishopModel" ⟨"BoyBishopModel", "isCanonHere", "(I)Z"⟩ ⟨"BoyBishopModel", "isCanonHere", "(I)Z"⟩ ∈ gT := gT_in (List.mem_append_left _ (List.mem_map.mpr ⟨(⟨"BoyBishopModel", "isCanonHere", "(I)Z"⟩, 38), (List.mem_append_right _ (List.mem_append_right _ (List.mem_append_right _ (List.mem_append_right _ (List.mem_append_left _ (List.mem_of_getElem? (i := 0) rfl)))))), rfl⟩)) rfl
theorem ts_4_1 : Cond.selects "BoyBishopModel" ⟨"BoyBishopModel", "isFarmHere", "(I)Z"⟩ ⟨"BoyBishopModel", "isFarmHere", "(I)Z"⟩ ∈ gT := gT_in (List.mem_append_left _ (List.mem_map.mpr ⟨(⟨"BoyBishopModel", "isFarmHere", "(I)Z"⟩, 38), (List.mem_append_right _ (List.mem_append_right _ (List.mem_append_right _ (List.mem_append_right _ (List.mem_append_left _ (List.mem_of_getElem? (i := 1) rfl)))))), rfl⟩)) rfl
theorem ts_4_2 : Cond.selects "BoyBishopModel" ⟨"BoyBishopModel", "isWayHere", "()Z"⟩ ⟨"BoyBishopModel", "isWayHere", "()Z"⟩ ∈ gT := gT_in (List.mem_append_left _ (List.mem_map.mpr ⟨(⟨"BoyBishopModel", "isWayHere", "()Z"⟩, 38), (List.mem_append_right _ (List.mem_append_right _ (List.mem_append_right _ (List.mem_append_right _ (List.mem_append_left _ (List.mem_of_getElem? (i := 2) rfl)))))), rfl⟩)) rfl
theorem ts_4_3 : Cond.selects "BoyBishopModel" ⟨"BoyBishopModel", "isSnowHere", "()Z"⟩ ⟨"BoyBishopModel", "isSnowHere", "()Z"⟩ ∈ gT := gT_in (List.mem_append_left _ (List.mem_map.mpr ⟨(⟨"BoyBishopModel", "isSnowHere", "()Z"⟩, 38), (List.mem_append_right _ (List.mem_append_right _ (List.mem_append_right _ (List.mem_append_right _ (List.mem_append_left _ (List.mem_of_getElem? (i := 3) rfl)))))), rfl⟩)) rfl
theorem tw_1272 : (Jvm.Cond.constantLong "BoyBishopModel" (223 : Nat) (426953894258 : Int64)) ∈ gT := gT_in (List.mem_append_right _ (List.mem_append_right _ (List.mem_append_right _ (List.mem_append_right _ (List.mem_append_right _ (List.mem_append_right _ (List.mem_append_left _ (List.mem_of_getElem? (i := 72) rfl)))))))) rfl
theorem tw_1273 : (Jvm.Cond.methodLink "BoyBishopModel" (104 : Nat) ({ cls := "BoyBishopModel", name := "isWord", desc := "(J)Z" } : Jvm.MethodName)) ∈ gT := gT_in (List.mem_append_right _ (List.mem_append_right _ (List.mem_append_right _ (List.mem_append_right _ (List.mem_append_right _ (List.mem_append_right _ (List.mem_append_left _ (List.mem_of_getElem? (i := 73) rfl)))))))) rfl
theorem tw_1275 : (Jvm.Cond.instanceMethod ({ cls := "BoyBishopModel", name := "isWord", desc := "(J)Z" } : Jvm.MethodName)) ∈ gT := gT_in (List.mem_append_right _ (List.mem_append_right _ (List.mem_append_right _ (List.mem_append_right _ (List.mem_append_right _ (List.mem_append_right _ (List.mem_append_left _ (List.mem_of_getElem? (i := 75) rfl)))))))) rfl
theorem tw_1276 : (Jvm.Cond.code ({ cls := "BoyBishopModel", name := "isWord", desc := "(J)Z" } : Jvm.MethodName) prog_14_method_13_code (6 : Nat) (Option.some Jvm.ClassFile.FieldType.boolean)) ∈ gT := gT_in (List.mem_append_right _ (List.mem_append_right _ (List.mem_append_right _ (List.mem_append_right _ (List.mem_append_right _ (List.mem_append_right _ (List.mem_append_left _ (List.mem_of_getElem? (i := 76) rfl)))))))) rfl
theorem tw_1281 : (Jvm.Cond.constantLong "BoyBishopModel" (127 : Nat) (6451065 : Int64)) ∈ gT := gT_in (List.mem_append_right _ (List.mem_append_right _ (List.mem_append_right _ (List.mem_append_right _ (List.mem_append_right _ (List.mem_append_right _ (List.mem_append_left _ (List.mem_of_getElem? (i := 81) rfl)))))))) rfl
theorem tw_1282 : (Jvm.Cond.constantLong "BoyBishopModel" (133 : Nat) (465625113971 : Int64)) ∈ gT := gT_in (List.mem_append_right _ (List.mem_append_right _ (List.mem_append_right _ (List.mem_append_right _ (List.mem_append_right _ (List.mem_append_right _ (List.mem_append_left _ (List.mem_of_getElem? (i := 82) rfl)))))))) rfl
theorem tw_1283 : (Jvm.Cond.constantLong "BoyBishopModel" (234 : Nat) (426836389742 : Int64)) ∈ gT := gT_in (List.mem_append_right _ (List.mem_append_right _ (List.mem_append_right _ (List.mem_append_right _ (List.mem_append_right _ (List.mem_append_right _ (List.mem_append_left _ (List.mem_of_getElem? (i := 83) rfl)))))))) rfl
theorem tw_1284 : (Jvm.Cond.constantLong "BoyBishopModel" (239 : Nat) (1717662317 : Int64)) ∈ gT := gT_in (List.mem_append_right _ (List.mem_append_right _ (List.mem_append_right _ (List.mem_append_right _ (List.mem_append_right _ (List.mem_append_right _ (List.mem_append_left _ (List.mem_of_getElem? (i := 84) rfl)))))))) rfl
theorem tw_1285 : (Jvm.Cond.constantLong "BoyBishopModel" (244 : Nat) (7823737 : Int64)) ∈ gT := gT_in (List.mem_append_right _ (List.mem_append_right _ (List.mem_append_right _ (List.mem_append_right _ (List.mem_append_right _ (List.mem_append_right _ (List.mem_append_left _ (List.mem_of_getElem? (i := 85) rfl)))))))) rfl
theorem tw_1286 : (Jvm.Cond.constantLong "BoyBishopModel" (252 : Nat) (1936617335 : Int64)) ∈ gT := gT_in (List.mem_append_right _ (List.mem_append_right _ (List.mem_append_right _ (List.mem_append_right _ (List.mem_append_right _ (List.mem_append_right _ (List.mem_append_left _ (List.mem_of_getElem? (i := 86) rfl)))))))) rfl
theorem tw_1296 : (Jvm.Cond.methodLink "BoyBishopModel" (225 : Nat) ({ cls := "BoyBishopModel", name := "isChoirHere", desc := "(I)Z" } : Jvm.MethodName)) ∈ gT := gT_in (List.mem_append_right _ (List.mem_append_right _ (List.mem_append_right _ (List.mem_append_right _ (List.mem_append_right _ (List.mem_append_right _ (List.mem_append_left _ (List.mem_of_getElem? (i := 96) rfl)))))))) rfl
theorem tw_1298 : (Jvm.Cond.instanceMethod ({ cls := "BoyBishopModel", name := "isChoirHere", desc := "(I)Z" } : Jvm.MethodName)) ∈ gT := gT_in (List.mem_append_right _ (List.mem_append_right _ (List.mem_append_right _ (List.mem_append_right _ (List.mem_append_right _ (List.mem_append_right _ (List.mem_append_left _ (List.mem_of_getElem? (i := 98) rfl)))))))) rfl
theorem tw_1299 : (Jvm.Cond.code ({ cls := "BoyBishopModel", name := "isChoirHere", desc := "(I)Z" } : Jvm.MethodName) prog_14_method_33_code (2 : Nat) (Option.some Jvm.ClassFile.FieldType.boolean)) ∈ gT := gT_in (List.mem_append_right _ (List.mem_append_right _ (List.mem_append_right _ (List.mem_append_right _ (List.mem_append_right _ (List.mem_append_right _ (List.mem_append_left _ (List.mem_of_getElem? (i := 99) rfl)))))))) rfl
theorem tw_1319 : (Jvm.Cond.methodLink "BoyBishopModel" (228 : Nat) ({ cls := "BoyBishopModel", name := "isBoyHere", desc := "(I)Z" } : Jvm.MethodName)) ∈ gT := gT_in (List.mem_append_right _ (List.mem_append_right _ (List.mem_append_right _ (List.mem_append_right _ (List.mem_append_right _ (List.mem_append_right _ (List.mem_append_left _ (List.mem_of_getElem? (i := 119) rfl)))))))) rfl
theorem tw_1321 : (Jvm.Cond.instanceMethod ({ cls := "BoyBishopModel", name := "isBoyHere", desc := "(I)Z" } : Jvm.MethodName)) ∈ gT := gT_in (List.mem_append_right _ (List.mem_append_right _ (List.mem_append_right _ (List.mem_append_right _ (List.mem_append_right _ (List.mem_append_right _ (List.mem_append_left _ (List.mem_of_getElem? (i := 121) rfl)))))))) rfl
theorem tw_1322 : (Jvm.Cond.code ({ cls := "BoyBishopModel", name := "isBoyHere", desc := "(I)Z" } : Jvm.MethodName) prog_14_method_34_code (3 : Nat) (Option.some Jvm.ClassFile.FieldType.boolean)) ∈ gT := gT_in (List.mem_append_right _ (List.mem_append_right _ (List.mem_append_right _ (List.mem_append_right _ (List.mem_append_right _ (List.mem_append_right _ (List.mem_append_left _ (List.mem_of_getElem? (i := 122) rfl)))))))) rfl
theorem tw_1323 : (Jvm.Cond.methodLink "BoyBishopModel" (231 : Nat) ({ cls := "BoyBishopModel", name := "areLikesHere", desc := "()Z" } : Jvm.MethodName)) ∈ gT := gT_in (List.mem_append_right _ (List.mem_append_right _ (List.mem_append_right _ (List.mem_append_right _ (List.mem_append_right _ (List.mem_append_right _ (List.mem_append_left _ (List.mem_of_getElem? (i := 123) rfl)))))))) rfl
theorem tw_1325 : (Jvm.Cond.instanceMethod ({ cls := "BoyBishopModel", name := "areLikesHere", desc := "()Z" } : Jvm.MethodName)) ∈ gT := gT_in (List.mem_append_right _ (List.mem_append_right _ (List.mem_append_right _ (List.mem_append_right _ (List.mem_append_right _ (List.mem_append_right _ (List.mem_append_left _ (List.mem_of_getElem? (i := 125) rfl)))))))) rfl
theorem tw_1326 : (Jvm.Cond.code ({ cls := "BoyBishopModel", name := "areLikesHere", desc := "()Z" } : Jvm.MethodName) prog_14_method_35_code (2 : Nat) (Option.some Jvm.ClassFile.FieldType.boolean)) ∈ gT := gT_in (List.mem_append_right _ (List.mem_append_right _ (List.mem_append_right _ (List.mem_append_right _ (List.mem_append_right _ (List.mem_append_right _ (List.mem_append_left _ (List.mem_of_getElem? (i := 126) rfl)))))))) rfl
theorem tw_1327 : (Jvm.Cond.methodLink "BoyBishopModel" (236 : Nat) ({ cls := "BoyBishopModel", name := "isCanonHere", desc := "(I)Z" } : Jvm.MethodName)) ∈ gT := gT_in (List.mem_append_right _ (List.mem_append_right _ (List.mem_append_right _ (List.mem_append_right _ (List.mem_append_right _ (List.mem_append_right _ (List.mem_append_left _ (List.mem_of_getElem? (i := 127) rfl)))))))) rfl
theorem tw_1329 : (Jvm.Cond.instanceMethod ({ cls := "BoyBishopModel", name := "isCanonHere", desc := "(I)Z" } : Jvm.MethodName)) ∈ gT := gT_in (List.mem_append_right _ (List.mem_append_right _ (List.mem_append_right _ (List.mem_append_right _ (List.mem_append_right _ (List.mem_append_right _ (List.mem_append_left _ (List.mem_of_getElem? (i := 129) rfl)))))))) rfl
theorem tw_1330 : (Jvm.Cond.code ({ cls := "BoyBishopModel", name := "isCanonHere", desc := "(I)Z" } : Jvm.MethodName) prog_14_method_36_code (2 : Nat) (Option.some Jvm.ClassFile.FieldType.boolean)) ∈ gT := gT_in (List.mem_append_right _ (List.mem_append_right _ (List.mem_append_right _ (List.mem_append_right _ (List.mem_append_right _ (List.mem_append_right _ (List.mem_append_left _ (List.mem_of_getElem? (i := 130) rfl)))))))) rfl
theorem tw_1331 : (Jvm.Cond.methodLink "BoyBishopModel" (241 : Nat) ({ cls := "BoyBishopModel", name := "isFarmHere", desc := "(I)Z" } : Jvm.MethodName)) ∈ gT := gT_in (List.mem_append_right _ (List.mem_append_right _ (List.mem_append_right _ (List.mem_append_right _ (List.mem_append_right _ (List.mem_append_right _ (List.mem_append_left _ (List.mem_of_getElem? (i := 131) rfl)))))))) rfl
theorem tw_1333 : (Jvm.Cond.instanceMethod ({ cls := "BoyBishopModel", name := "isFarmHere", desc := "(I)Z" } : Jvm.MethodName)) ∈ gT := gT_in (List.mem_append_right _ (List.mem_append_right _ (List.mem_append_right _ (List.mem_append_right _ (List.mem_append_right _ (List.mem_append_right _ (List.mem_append_left _ (List.mem_of_getElem? (i := 133) rfl)))))))) rfl
theorem tw_1334 : (Jvm.Cond.code ({ cls := "BoyBishopModel", name := "isFarmHere", desc := "(I)Z" } : Jvm.MethodName) prog_14_method_37_code (3 : Nat) (Option.some Jvm.ClassFile.FieldType.boolean)) ∈ gT := gT_in (List.mem_append_right _ (List.mem_append_right _ (List.mem_append_right _ (List.mem_append_right _ (List.mem_append_right _ (List.mem_append_right _ (List.mem_append_left _ (List.mem_of_getElem? (i := 134) rfl)))))))) rfl
theorem tw_1335 : (Jvm.Cond.methodLink "BoyBishopModel" (246 : Nat) ({ cls := "BoyBishopModel", name := "isWayHere", desc := "()Z" } : Jvm.MethodName)) ∈ gT := gT_in (List.mem_append_right _ (List.mem_append_right _ (List.mem_append_right _ (List.mem_append_right _ (List.mem_append_right _ (List.mem_append_right _ (List.mem_append_left _ (List.mem_of_getElem? (i := 135) rfl)))))))) rfl
theorem tw_1337 : (Jvm.Cond.instanceMethod ({ cls := "BoyBishopModel", name := "isWayHere", desc := "()Z" } : Jvm.MethodName)) ∈ gT := gT_in (List.mem_append_right _ (List.mem_append_right _ (List.mem_append_right _ (List.mem_append_right _ (List.mem_append_right _ (List.mem_append_right _ (List.mem_append_left _ (List.mem_of_getElem? (i := 137) rfl)))))))) rfl
theorem tw_1338 : (Jvm.Cond.code ({ cls := "BoyBishopModel", name := "isWayHere", desc := "()Z" } : Jvm.MethodName) prog_14_method_38_code (4 : Nat) (Option.some Jvm.ClassFile.FieldType.boolean)) ∈ gT := gT_in (List.mem_append_right _ (List.mem_append_right _ (List.mem_append_right _ (List.mem_append_right _ (List.mem_append_right _ (List.mem_append_right _ (List.mem_append_left _ (List.mem_of_getElem? (i := 138) rfl)))))))) rfl
theorem tw_1339 : (Jvm.Cond.methodLink "BoyBishopModel" (249 : Nat) ({ cls := "BoyBishopModel", name := "isSnowHere", desc := "()Z" } : Jvm.MethodName)) ∈ gT := gT_in (List.mem_append_right _ (List.mem_append_right _ (List.mem_append_right _ (List.mem_append_right _ (List.mem_append_right _ (List.mem_append_right _ (List.mem_append_left _ (List.mem_of_getElem? (i := 139) rfl)))))))) rfl
theorem tw_1341 : (Jvm.Cond.instanceMethod ({ cls := "BoyBishopModel", name := "isSnowHere", desc := "()Z" } : Jvm.MethodName)) ∈ gT := gT_in (List.mem_append_right _ (List.mem_append_right _ (List.mem_append_right _ (List.mem_append_right _ (List.mem_append_right _ (List.mem_append_right _ (List.mem_append_left _ (List.mem_of_getElem? (i := 141) rfl)))))))) rfl
theorem tw_1342 : (Jvm.Cond.code ({ cls := "BoyBishopModel", name := "isSnowHere", desc := "()Z" } : Jvm.MethodName) prog_14_method_39_code (1 : Nat) (Option.some Jvm.ClassFile.FieldType.boolean)) ∈ gT := gT_in (List.mem_append_right _ (List.mem_append_right _ (List.mem_append_right _ (List.mem_append_right _ (List.mem_append_right _ (List.mem_append_right _ (List.mem_append_left _ (List.mem_of_getElem? (i := 142) rfl)))))))) rfl
theorem tw_1372 : (Jvm.Cond.constantLong "BoyBishopModel" (125 : Nat) (508676040050 : Int64)) ∈ gT := gT_in (List.mem_append_right _ (List.mem_append_right _ (List.mem_append_right _ (List.mem_append_right _ (List.mem_append_right _ (List.mem_append_right _ (List.mem_append_left _ (List.mem_of_getElem? (i := 172) rfl)))))))) rfl
theorem tw_1373 : (Jvm.Cond.constantLong "BoyBishopModel" (129 : Nat) (508675318629 : Int64)) ∈ gT := gT_in (List.mem_append_right _ (List.mem_append_right _ (List.mem_append_right _ (List.mem_append_right _ (List.mem_append_right _ (List.mem_append_right _ (List.mem_append_left _ (List.mem_of_getElem? (i := 173) rfl)))))))) rfl
theorem tw_1374 : (Jvm.Cond.constantLong "BoyBishopModel" (131 : Nat) (495672455781 : Int64)) ∈ gT := gT_in (List.mem_append_right _ (List.mem_append_right _ (List.mem_append_right _ (List.mem_append_right _ (List.mem_append_right _ (List.mem_append_right _ (List.mem_append_left _ (List.mem_of_getElem? (i := 174) rfl)))))))) rfl
theorem tw_1375 : (Jvm.Cond.constantLong "BoyBishopModel" (135 : Nat) (1717658725 : Int64)) ∈ gT := gT_in (List.mem_append_right _ (List.mem_append_right _ (List.mem_append_right _ (List.mem_append_right _ (List.mem_append_right _ (List.mem_append_right _ (List.mem_append_left _ (List.mem_of_getElem? (i := 175) rfl)))))))) rfl
theorem tw_1376 : (Jvm.Cond.constantLong "BoyBishopModel" (137 : Nat) (7823731 : Int64)) ∈ gT := gT_in (List.mem_append_right _ (List.mem_append_right _ (List.mem_append_right _ (List.mem_append_right _ (List.mem_append_right _ (List.mem_append_right _ (List.mem_append_left _ (List.mem_of_getElem? (i := 176) rfl)))))))) rfl
theorem tw_1377 : (Jvm.Cond.constantLong "BoyBishopModel" (139 : Nat) (1935764837 : Int64)) ∈ gT := gT_in (List.mem_append_right _ (List.mem_append_right _ (List.mem_append_right _ (List.mem_append_right _ (List.mem_append_right _ (List.mem_append_right _ (List.mem_append_left _ (List.mem_of_getElem? (i := 177) rfl)))))))) rfl
theorem tw_1378 : (Jvm.Cond.constantLong "BoyBishopModel" (141 : Nat) (6578553 : Int64)) ∈ gT := gT_in (List.mem_append_right _ (List.mem_append_right _ (List.mem_append_right _ (List.mem_append_right _ (List.mem_append_right _ (List.mem_append_right _ (List.mem_append_left _ (List.mem_of_getElem? (i := 178) rfl)))))))) rfl
theorem tw_1379 : (Jvm.Cond.constantLong "BoyBishopModel" (143 : Nat) (426953241460 : Int64)) ∈ gT := gT_in (List.mem_append_right _ (List.mem_append_right _ (List.mem_append_right _ (List.mem_append_right _ (List.mem_append_right _ (List.mem_append_right _ (List.mem_append_left _ (List.mem_of_getElem? (i := 179) rfl)))))))) rfl
theorem tw_1380 : (Jvm.Cond.constantLong "BoyBishopModel" (145 : Nat) (1651472755 : Int64)) ∈ gT := gT_in (List.mem_append_right _ (List.mem_append_right _ (List.mem_append_right _ (List.mem_append_right _ (List.mem_append_right _ (List.mem_append_right _ (List.mem_append_left _ (List.mem_of_getElem? (i := 180) rfl)))))))) rfl
theorem dX12_choirLineHere_0 : decode cX12_choirLineHere 0 = .ok (.aload_n 0, 1) := by decide +kernel
theorem dX12_choirLineHere_1 : decode cX12_choirLineHere 1 = .ok (.ldc2_w 223, 3) := by decide +kernel
theorem dX12_choirLineHere_4 : decode cX12_choirLineHere 4 = .ok (.invokevirtual 104, 3) := by decide +kernel
theorem dX12_choirLineHere_7 : decode cX12_choirLineHere 7 = .ok (.ifCond .eq 9, 3) := by decide +kernel
theorem dX12_choirLineHere_10 : decode cX12_choirLineHere 10 = .ok (.aload_n 0, 1) := by decide +kernel
theorem dX12_choirLineHere_11 : decode cX12_choirLineHere 11 = .ok (.iload_n 1, 1) := by decide +kernel
theorem dX12_choirLineHere_12 : decode cX12_choirLineHere 12 = .ok (.invokevirtual 225, 3) := by decide +kernel
theorem dX12_choirLineHere_15 : decode cX12_choirLineHere 15 = .ok (.ireturn, 1) := by decide +kernel
theorem dX12_choirLineHere_16 : decode cX12_choirLineHere 16 = .ok (.aload_n 0, 1) := by decide +kernel
theorem dX12_choirLineHere_17 : decode cX12_choirLineHere 17 = .ok (.getfield 26, 3) := by decide +kernel
theorem dX12_choirLineHere_20 : decode cX12_choirLineHere 20 = .ok (.iconst 0, 1) := by decide +kernel
theorem dX12_choirLineHere_21 : decode cX12_choirLineHere 21 = .ok (.iaload, 1) := by decide +kernel
theorem dX12_choirLineHere_22 : decode cX12_choirLineHere 22 = .ok (.ifCond .ne 10, 3) := by decide +kernel
theorem dX12_choirLineHere_25 : decode cX12_choirLineHere 25 = .ok (.aload_n 0, 1) := by decide +kernel
theorem dX12_choirLineHere_26 : decode cX12_choirLineHere 26 = .ok (.iconst 4, 1) := by decide +kernel
theorem dX12_choirLineHere_27 : decode cX12_choirLineHere 27 = .ok (.iload_n 1, 1) := by decide +kernel
theorem dX12_choirLineHere_28 : decode cX12_choirLineHere 28 = .ok (.invokevirtual 114, 3) := by decide +kernel
theorem dX12_choirLineHere_31 : decode cX12_choirLineHere 31 = .ok (.ireturn, 1) := by decide +kernel
theorem dX12_choirLineHere_32 : decode cX12_choirLineHere 32 = .ok (.aload_n 0, 1) := by decide +kernel
theorem dX12_choirLineHere_33 : decode cX12_choirLineHere 33 = .ok (.ldc2_w 127, 3) := by decide +kernel
theorem dX12_choirLineHere_36 : decode cX12_choirLineHere 36 = .ok (.invokevirtual 104, 3) := by decide +kernel
theorem dX12_choirLineHere_39 : decode cX12_choirLineHere 39 = .ok (.ifCond .eq 9, 3) := by decide +kernel
theorem dX12_choirLineHere_42 : decode cX12_choirLineHere 42 = .ok (.aload_n 0, 1) := by decide +kernel
theorem dX12_choirLineHere_43 : decode cX12_choirLineHere 43 = .ok (.iload_n 1, 1) := by decide +kernel
theorem dX12_choirLineHere_44 : decode cX12_choirLineHere 44 = .ok (.invokevirtual 228, 3) := by decide +kernel
theorem dX12_choirLineHere_47 : decode cX12_choirLineHere 47 = .ok (.ireturn, 1) := by decide +kernel
theorem dX12_choirLineHere_48 : decode cX12_choirLineHere 48 = .ok (.aload_n 0, 1) := by decide +kernel
theorem dX12_choirLineHere_49 : decode cX12_choirLineHere 49 = .ok (.ldc2_w 133, 3) := by decide +kernel
theorem dX12_choirLineHere_52 : decode cX12_choirLineHere 52 = .ok (.invokevirtual 104, 3) := by decide +kernel
theorem dX12_choirLineHere_55 : decode cX12_choirLineHere 55 = .ok (.ifCond .eq 8, 3) := by decide +kernel
theorem dX12_choirLineHere_58 : decode cX12_choirLineHere 58 = .ok (.aload_n 0, 1) := by decide +kernel
theorem dX12_choirLineHere_59 : decode cX12_choirLineHere 59 = .ok (.invokevirtual 231, 3) := by decide +kernel
theorem dX12_choirLineHere_62 : decode cX12_choirLineHere 62 = .ok (.ireturn, 1) := by decide +kernel
theorem dX12_choirLineHere_63 : decode cX12_choirLineHere 63 = .ok (.aload_n 0, 1) := by decide +kernel
theorem dX12_choirLineHere_64 : decode cX12_choirLineHere 64 = .ok (.ldc2_w 234, 3) := by decide +kernel
theorem dX12_choirLineHere_67 : decode cX12_choirLineHere 67 = .ok (.invokevirtual 104, 3) := by decide +kernel
theorem dX12_choirLineHere_70 : decode cX12_choirLineHere 70 = .ok (.ifCond .eq 9, 3) := by decide +kernel
theorem dX12_choirLineHere_73 : decode cX12_choirLineHere 73 = .ok (.aload_n 0, 1) := by decide +kernel
theorem dX12_choirLineHere_74 : decode cX12_choirLineHere 74 = .ok (.iload_n 1, 1) := by decide +kernel
theorem dX12_choirLineHere_75 : decode cX12_choirLineHere 75 = .ok (.invokevirtual 236, 3) := by decide +kernel
theorem dX12_choirLineHere_78 : decode cX12_choirLineHere 78 = .ok (.ireturn, 1) := by decide +kernel
theorem dX12_choirLineHere_79 : decode cX12_choirLineHere 79 = .ok (.aload_n 0, 1) := by decide +kernel
theorem dX12_choirLineHere_80 : decode cX12_choirLineHere 80 = .ok (.ldc2_w 239, 3) := by decide +kernel
theorem dX12_choirLineHere_83 : decode cX12_choirLineHere 83 = .ok (.invokevirtual 104, 3) := by decide +kernel
theorem dX12_choirLineHere_86 : decode cX12_choirLineHere 86 = .ok (.ifCond .eq 9, 3) := by decide +kernel
theorem dX12_choirLineHere_89 : decode cX12_choirLineHere 89 = .ok (.aload_n 0, 1) := by decide +kernel
theorem dX12_choirLineHere_90 : decode cX12_choirLineHere 90 = .ok (.iload_n 1, 1) := by decide +kernel
theorem dX12_choirLineHere_91 : decode cX12_choirLineHere 91 = .ok (.invokevirtual 241, 3) := by decide +kernel
theorem dX12_choirLineHere_94 : decode cX12_choirLineHere 94 = .ok (.ireturn, 1) := by decide +kernel
theorem dX12_choirLineHere_95 : decode cX12_choirLineHere 95 = .ok (.aload_n 0, 1) := by decide +kernel
theorem dX12_choirLineHere_96 : decode cX12_choirLineHere 96 = .ok (.ldc2_w 244, 3) := by decide +kernel
theorem dX12_choirLineHere_99 : decode cX12_choirLineHere 99 = .ok (.invokevirtual 104, 3) := by decide +kernel
theorem dX12_choirLineHere_102 : decode cX12_choirLineHere 102 = .ok (.ifCond .eq 10, 3) := by decide +kernel
theorem dX12_choirLineHere_105 : decode cX12_choirLineHere 105 = .ok (.aload_n 0, 1) := by decide +kernel
theorem dX12_choirLineHere_106 : decode cX12_choirLineHere 106 = .ok (.invokevirtual 246, 3) := by decide +kernel
theorem dX12_choirLineHere_109 : decode cX12_choirLineHere 109 = .ok (.goto 7, 3) := by decide +kernel
theorem dX12_choirLineHere_112 : decode cX12_choirLineHere 112 = .ok (.aload_n 0, 1) := by decide +kernel
theorem dX12_choirLineHere_113 : decode cX12_choirLineHere 113 = .ok (.invokevirtual 249, 3) := by decide +kernel
theorem dX12_choirLineHere_116 : decode cX12_choirLineHere 116 = .ok (.ireturn, 1) := by decide +kernel
theorem dX12_isChoirWord_0 : decode cX12_isChoirWord 0 = .ok (.aload_n 0, 1) := by decide +kernel
theorem dX12_isChoirWord_1 : decode cX12_isChoirWord 1 = .ok (.ldc2_w 223, 3) := by decide +kernel
theorem dX12_isChoirWord_4 : decode cX12_isChoirWord 4 = .ok (.invokevirtual 104, 3) := by decide +kernel
theorem dX12_isChoirWord_7 : decode cX12_isChoirWord 7 = .ok (.ifCond .ne 63, 3) := by decide +kernel
theorem dX12_isChoirWord_10 : decode cX12_isChoirWord 10 = .ok (.aload_n 0, 1) := by decide +kernel
theorem dX12_isChoirWord_11 : decode cX12_isChoirWord 11 = .ok (.ldc2_w 127, 3) := by decide +kernel
theorem dX12_isChoirWord_14 : decode cX12_isChoirWord 14 = .ok (.invokevirtual 104, 3) := by decide +kernel
theorem dX12_isChoirWord_17 : decode cX12_isChoirWord 17 = .ok (.ifCond .ne 53, 3) := by decide +kernel
theorem dX12_isChoirWord_20 : decode cX12_isChoirWord 20 = .ok (.aload_n 0, 1) := by decide +kernel
theorem dX12_isChoirWord_21 : decode cX12_isChoirWord 21 = .ok (.ldc2_w 133, 3) := by decide +kernel
theorem dX12_isChoirWord_24 : decode cX12_isChoirWord 24 = .ok (.invokevirtual 104, 3) := by decide +kernel
theorem dX12_isChoirWord_27 : decode cX12_isChoirWord 27 = .ok (.ifCond .ne 43, 3) := by decide +kernel
theorem dX12_isChoirWord_30 : decode cX12_isChoirWord 30 = .ok (.aload_n 0, 1) := by decide +kernel
theorem dX12_isChoirWord_31 : decode cX12_isChoirWord 31 = .ok (.ldc2_w 234, 3) := by decide +kernel
theorem dX12_isChoirWord_34 : decode cX12_isChoirWord 34 = .ok (.invokevirtual 104, 3) := by decide +kernel
theorem dX12_isChoirWord_37 : decode cX12_isChoirWord 37 = .ok (.ifCond .ne 33, 3) := by decide +kernel
theorem dX12_isChoirWord_40 : decode cX12_isChoirWord 40 = .ok (.aload_n 0, 1) := by decide +kernel
theorem dX12_isChoirWord_41 : decode cX12_isChoirWord 41 = .ok (.ldc2_w 239, 3) := by decide +kernel
theorem dX12_isChoirWord_44 : decode cX12_isChoirWord 44 = .ok (.invokevirtual 104, 3) := by decide +kernel
theorem dX12_isChoirWord_47 : decode cX12_isChoirWord 47 = .ok (.ifCond .ne 23, 3) := by decide +kernel
theorem dX12_isChoirWord_50 : decode cX12_isChoirWord 50 = .ok (.aload_n 0, 1) := by decide +kernel
theorem dX12_isChoirWord_51 : decode cX12_isChoirWord 51 = .ok (.ldc2_w 244, 3) := by decide +kernel
theorem dX12_isChoirWord_54 : decode cX12_isChoirWord 54 = .ok (.invokevirtual 104, 3) := by decide +kernel
theorem dX12_isChoirWord_57 : decode cX12_isChoirWord 57 = .ok (.ifCond .ne 13, 3) := by decide +kernel
theorem dX12_isChoirWord_60 : decode cX12_isChoirWord 60 = .ok (.aload_n 0, 1) := by decide +kernel
theorem dX12_isChoirWord_61 : decode cX12_isChoirWord 61 = .ok (.ldc2_w 252, 3) := by decide +kernel
theorem dX12_isChoirWord_64 : decode cX12_isChoirWord 64 = .ok (.invokevirtual 104, 3) := by decide +kernel
theorem dX12_isChoirWord_67 : decode cX12_isChoirWord 67 = .ok (.ifCond .eq 7, 3) := by decide +kernel
theorem dX12_isChoirWord_70 : decode cX12_isChoirWord 70 = .ok (.iconst 1, 1) := by decide +kernel
theorem dX12_isChoirWord_71 : decode cX12_isChoirWord 71 = .ok (.goto 4, 3) := by decide +kernel
theorem dX12_isChoirWord_74 : decode cX12_isChoirWord 74 = .ok (.iconst 0, 1) := by decide +kernel
theorem dX12_isChoirWord_75 : decode cX12_isChoirWord 75 = .ok (.ireturn, 1) := by decide +kernel
theorem dX12_isSnowHere_0 : decode cX12_isSnowHere 0 = .ok (.aload_n 0, 1) := by decide +kernel
theorem dX12_isSnowHere_1 : decode cX12_isSnowHere 1 = .ok (.invokevirtual 108, 3) := by decide +kernel
theorem dX12_isSnowHere_4 : decode cX12_isSnowHere 4 = .ok (.aload_n 0, 1) := by decide +kernel
theorem dX12_isSnowHere_5 : decode cX12_isSnowHere 5 = .ok (.iconst 0, 1) := by decide +kernel
theorem dX12_isSnowHere_6 : decode cX12_isSnowHere 6 = .ok (.bipush 60, 2) := by decide +kernel
theorem dX12_isSnowHere_8 : decode cX12_isSnowHere 8 = .ok (.invokevirtual 168, 3) := by decide +kernel
theorem dX12_isSnowHere_11 : decode cX12_isSnowHere 11 = .ok (.ifCond .ne 5, 3) := by decide +kernel
theorem dX12_isSnowHere_14 : decode cX12_isSnowHere 14 = .ok (.iconst 0, 1) := by decide +kernel
theorem dX12_isSnowHere_15 : decode cX12_isSnowHere 15 = .ok (.ireturn, 1) := by decide +kernel
theorem dX12_isSnowHere_16 : decode cX12_isSnowHere 16 = .ok (.aload_n 0, 1) := by decide +kernel
theorem dX12_isSnowHere_17 : decode cX12_isSnowHere 17 = .ok (.getfield 26, 3) := by decide +kernel
theorem dX12_isSnowHere_20 : decode cX12_isSnowHere 20 = .ok (.sipush 224, 3) := by decide +kernel
theorem dX12_isSnowHere_23 : decode cX12_isSnowHere 23 = .ok (.aload_n 0, 1) := by decide +kernel
theorem dX12_isSnowHere_24 : decode cX12_isSnowHere 24 = .ok (.getfield 118, 3) := by decide +kernel
theorem dX12_isSnowHere_27 : decode cX12_isSnowHere 27 = .ok (.iadd, 1) := by decide +kernel
theorem dX12_isSnowHere_28 : decode cX12_isSnowHere 28 = .ok (.iconst 1, 1) := by decide +kernel
theorem dX12_isSnowHere_29 : decode cX12_isSnowHere 29 = .ok (.iastore, 1) := by decide +kernel
theorem dX12_isSnowHere_30 : decode cX12_isSnowHere 30 = .ok (.iconst 1, 1) := by decide +kernel
theorem dX12_isSnowHere_31 : decode cX12_isSnowHere 31 = .ok (.ireturn, 1) := by decide +kernel
theorem dX12_isWayHere_0 : decode cX12_isWayHere 0 = .ok (.aload_n 0, 1) := by decide +kernel
theorem dX12_isWayHere_1 : decode cX12_isWayHere 1 = .ok (.invokevirtual 108, 3) := by decide +kernel
theorem dX12_isWayHere_4 : decode cX12_isWayHere 4 = .ok (.aload_n 0, 1) := by decide +kernel
theorem dX12_isWayHere_5 : decode cX12_isWayHere 5 = .ok (.iconst 0, 1) := by decide +kernel
theorem dX12_isWayHere_6 : decode cX12_isWayHere 6 = .ok (.aload_n 0, 1) := by decide +kernel
theorem dX12_isWayHere_7 : decode cX12_isWayHere 7 = .ok (.getfield 26, 3) := by decide +kernel
theorem dX12_isWayHere_10 : decode cX12_isWayHere 10 = .ok (.iconst 5, 1) := by decide +kernel
theorem dX12_isWayHere_11 : decode cX12_isWayHere 11 = .ok (.iaload, 1) := by decide +kernel
theorem dX12_isWayHere_12 : decode cX12_isWayHere 12 = .ok (.invokevirtual 168, 3) := by decide +kernel
theorem dX12_isWayHere_15 : decode cX12_isWayHere 15 = .ok (.ifCond .ne 5, 3) := by decide +kernel
theorem dX12_isWayHere_18 : decode cX12_isWayHere 18 = .ok (.iconst 0, 1) := by decide +kernel
theorem dX12_isWayHere_19 : decode cX12_isWayHere 19 = .ok (.ireturn, 1) := by decide +kernel
theorem dX12_isWayHere_20 : decode cX12_isWayHere 20 = .ok (.aload_n 0, 1) := by decide +kernel
theorem dX12_isWayHere_21 : decode cX12_isWayHere 21 = .ok (.getfield 118, 3) := by decide +kernel
theorem dX12_isWayHere_24 : decode cX12_isWayHere 24 = .ok (.istore_n 1, 1) := by decide +kernel
theorem dX12_isWayHere_25 : decode cX12_isWayHere 25 = .ok (.aload_n 0, 1) := by decide +kernel
theorem dX12_isWayHere_26 : decode cX12_isWayHere 26 = .ok (.invokevirtual 96, 3) := by decide +kernel
theorem dX12_isWayHere_29 : decode cX12_isWayHere 29 = .ok (.pop, 1) := by decide +kernel
theorem dX12_isWayHere_30 : decode cX12_isWayHere 30 = .ok (.aload_n 0, 1) := by decide +kernel
theorem dX12_isWayHere_31 : decode cX12_isWayHere 31 = .ok (.getfield 93, 3) := by decide +kernel
theorem dX12_isWayHere_34 : decode cX12_isWayHere 34 = .ok (.istore_n 2, 1) := by decide +kernel
theorem dX12_isWayHere_35 : decode cX12_isWayHere 35 = .ok (.aload_n 0, 1) := by decide +kernel
theorem dX12_isWayHere_36 : decode cX12_isWayHere 36 = .ok (.iconst 0, 1) := by decide +kernel
theorem dX12_isWayHere_37 : decode cX12_isWayHere 37 = .ok (.aload_n 0, 1) := by decide +kernel
theorem dX12_isWayHere_38 : decode cX12_isWayHere 38 = .ok (.getfield 26, 3) := by decide +kernel
theorem dX12_isWayHere_41 : decode cX12_isWayHere 41 = .ok (.iconst 5, 1) := by decide +kernel
theorem dX12_isWayHere_42 : decode cX12_isWayHere 42 = .ok (.iaload, 1) := by decide +kernel
theorem dX12_isWayHere_43 : decode cX12_isWayHere 43 = .ok (.invokevirtual 168, 3) := by decide +kernel
theorem dX12_isWayHere_46 : decode cX12_isWayHere 46 = .ok (.ifCond .ne 5, 3) := by decide +kernel
theorem dX12_isWayHere_49 : decode cX12_isWayHere 49 = .ok (.iconst 0, 1) := by decide +kernel
theorem dX12_isWayHere_50 : decode cX12_isWayHere 50 = .ok (.ireturn, 1) := by decide +kernel
theorem dX12_isWayHere_51 : decode cX12_isWayHere 51 = .ok (.aload_n 0, 1) := by decide +kernel
theorem dX12_isWayHere_52 : decode cX12_isWayHere 52 = .ok (.getfield 118, 3) := by decide +kernel
theorem dX12_isWayHere_55 : decode cX12_isWayHere 55 = .ok (.istore_n 3, 1) := by decide +kernel
theorem dX12_isWayHere_56 : decode cX12_isWayHere 56 = .ok (.iload_n 1, 1) := by decide +kernel
theorem dX12_isWayHere_57 : decode cX12_isWayHere 57 = .ok (.iload_n 3, 1) := by decide +kernel
theorem dX12_isWayHere_58 : decode cX12_isWayHere 58 = .ok (.if_icmp .ne 10, 3) := by decide +kernel
theorem dX12_isWayHere_61 : decode cX12_isWayHere 61 = .ok (.aload_n 0, 1) := by decide +kernel
theorem dX12_isWayHere_62 : decode cX12_isWayHere 62 = .ok (.iconst 1, 1) := by decide +kernel
theorem dX12_isWayHere_63 : decode cX12_isWayHere 63 = .ok (.iload_n 2, 1) := by decide +kernel
theorem dX12_isWayHere_64 : decode cX12_isWayHere 64 = .ok (.invokevirtual 114, 3) := by decide +kernel
theorem dX12_isWayHere_67 : decode cX12_isWayHere 67 = .ok (.ireturn, 1) := by decide +kernel
theorem dX12_isWayHere_68 : decode cX12_isWayHere 68 = .ok (.aload_n 0, 1) := by decide +kernel
theorem dX12_isWayHere_69 : decode cX12_isWayHere 69 = .ok (.bipush 126, 2) := by decide +kernel
theorem dX12_isWayHere_71 : decode cX12_isWayHere 71 = .ok (.bipush 7, 2) := by decide +kernel
theorem dX12_isWayHere_73 : decode cX12_isWayHere 73 = .ok (.iload_n 1, 1) := by decide +kernel
theorem dX12_isWayHere_74 : decode cX12_isWayHere 74 = .ok (.imul, 1) := by decide +kernel
theorem dX12_isWayHere_75 : decode cX12_isWayHere 75 = .ok (.iadd, 1) := by decide +kernel
theorem dX12_isWayHere_76 : decode cX12_isWayHere 76 = .ok (.iload_n 3, 1) := by decide +kernel
theorem dX12_isWayHere_77 : decode cX12_isWayHere 77 = .ok (.iadd, 1) := by decide +kernel
theorem dX12_isWayHere_78 : decode cX12_isWayHere 78 = .ok (.iconst 1, 1) := by decide +kernel
theorem dX12_isWayHere_79 : decode cX12_isWayHere 79 = .ok (.bipush 12, 2) := by decide +kernel
theorem dX12_isWayHere_81 : decode cX12_isWayHere 81 = .ok (.invokevirtual 219, 3) := by decide +kernel
theorem dX12_isWayHere_84 : decode cX12_isWayHere 84 = .ok (.ifCond .ne 5, 3) := by decide +kernel
theorem dX12_isWayHere_87 : decode cX12_isWayHere 87 = .ok (.iconst 0, 1) := by decide +kernel
theorem dX12_isWayHere_88 : decode cX12_isWayHere 88 = .ok (.ireturn, 1) := by decide +kernel
theorem dX12_isWayHere_89 : decode cX12_isWayHere 89 = .ok (.aload_n 0, 1) := by decide +kernel
theorem dX12_isWayHere_90 : decode cX12_isWayHere 90 = .ok (.getfield 26, 3) := by decide +kernel
theorem dX12_isWayHere_93 : decode cX12_isWayHere 93 = .ok (.bipush 126, 2) := by decide +kernel
theorem dX12_isWayHere_95 : decode cX12_isWayHere 95 = .ok (.bipush 7, 2) := by decide +kernel
theorem dX12_isWayHere_97 : decode cX12_isWayHere 97 = .ok (.iload_n 3, 1) := by decide +kernel
theorem dX12_isWayHere_98 : decode cX12_isWayHere 98 = .ok (.imul, 1) := by decide +kernel
theorem dX12_isWayHere_99 : decode cX12_isWayHere 99 = .ok (.iadd, 1) := by decide +kernel
theorem dX12_isWayHere_100 : decode cX12_isWayHere 100 = .ok (.iload_n 1, 1) := by decide +kernel
theorem dX12_isWayHere_101 : decode cX12_isWayHere 101 = .ok (.iadd, 1) := by decide +kernel
theorem dX12_isWayHere_102 : decode cX12_isWayHere 102 = .ok (.aload_n 0, 1) := by decide +kernel
theorem dX12_isWayHere_103 : decode cX12_isWayHere 103 = .ok (.getfield 118, 3) := by decide +kernel
theorem dX12_isWayHere_106 : decode cX12_isWayHere 106 = .ok (.iastore, 1) := by decide +kernel
theorem dX12_isWayHere_107 : decode cX12_isWayHere 107 = .ok (.iconst 1, 1) := by decide +kernel
theorem dX12_isWayHere_108 : decode cX12_isWayHere 108 = .ok (.ireturn, 1) := by decide +kernel
theorem dX12_isWord_0 : decode cX12_isWord 0 = .ok (.aload_n 0, 1) := by decide +kernel
theorem dX12_isWord_1 : decode cX12_isWord 1 = .ok (.invokevirtual 96, 3) := by decide +kernel
theorem dX12_isWord_4 : decode cX12_isWord 4 = .ok (.pop, 1) := by decide +kernel
theorem dX12_isWord_5 : decode cX12_isWord 5 = .ok (.lconst 0, 1) := by decide +kernel
theorem dX12_isWord_6 : decode cX12_isWord 6 = .ok (.lstore_n 3, 1) := by decide +kernel
theorem dX12_isWord_7 : decode cX12_isWord 7 = .ok (.iconst 0, 1) := by decide +kernel
theorem dX12_isWord_8 : decode cX12_isWord 8 = .ok (.istore 5, 2) := by decide +kernel
theorem dX12_isWord_10 : decode cX12_isWord 10 = .ok (.aload_n 0, 1) := by decide +kernel
theorem dX12_isWord_11 : decode cX12_isWord 11 = .ok (.aload_n 0, 1) := by decide +kernel
theorem dX12_isWord_12 : decode cX12_isWord 12 = .ok (.getfield 93, 3) := by decide +kernel
theorem dX12_isWord_15 : decode cX12_isWord 15 = .ok (.iload 5, 2) := by decide +kernel
theorem dX12_isWord_17 : decode cX12_isWord 17 = .ok (.iadd, 1) := by decide +kernel
theorem dX12_isWord_18 : decode cX12_isWord 18 = .ok (.invokevirtual 100, 3) := by decide +kernel
theorem dX12_isWord_21 : decode cX12_isWord 21 = .ok (.ifCond .eq 35, 3) := by decide +kernel
theorem dX12_isWord_24 : decode cX12_isWord 24 = .ok (.iload 5, 2) := by decide +kernel
theorem dX12_isWord_26 : decode cX12_isWord 26 = .ok (.bipush 8, 2) := by decide +kernel
theorem dX12_isWord_28 : decode cX12_isWord 28 = .ok (.if_icmp .ge 22, 3) := by decide +kernel
theorem dX12_isWord_31 : decode cX12_isWord 31 = .ok (.lload_n 3, 1) := by decide +kernel
theorem dX12_isWord_32 : decode cX12_isWord 32 = .ok (.bipush 8, 2) := by decide +kernel
theorem dX12_isWord_34 : decode cX12_isWord 34 = .ok (.lshl, 1) := by decide +kernel
theorem dX12_isWord_35 : decode cX12_isWord 35 = .ok (.aload_n 0, 1) := by decide +kernel
theorem dX12_isWord_36 : decode cX12_isWord 36 = .ok (.getfield 7, 3) := by decide +kernel
theorem dX12_isWord_39 : decode cX12_isWord 39 = .ok (.aload_n 0, 1) := by decide +kernel
theorem dX12_isWord_40 : decode cX12_isWord 40 = .ok (.getfield 93, 3) := by decide +kernel
theorem dX12_isWord_43 : decode cX12_isWord 43 = .ok (.iload 5, 2) := by decide +kernel
theorem dX12_isWord_45 : decode cX12_isWord 45 = .ok (.iadd, 1) := by decide +kernel
theorem dX12_isWord_46 : decode cX12_isWord 46 = .ok (.baload, 1) := by decide +kernel
theorem dX12_isWord_47 : decode cX12_isWord 47 = .ok (.i2l, 1) := by decide +kernel
theorem dX12_isWord_48 : decode cX12_isWord 48 = .ok (.lor, 1) := by decide +kernel
theorem dX12_isWord_49 : decode cX12_isWord 49 = .ok (.lstore_n 3, 1) := by decide +kernel
theorem dX12_isWord_50 : decode cX12_isWord 50 = .ok (.iinc 5 1, 3) := by decide +kernel
theorem dX12_isWord_53 : decode cX12_isWord 53 = .ok (.goto (-43), 3) := by decide +kernel
theorem dX12_isWord_56 : decode cX12_isWord 56 = .ok (.iload 5, 2) := by decide +kernel
theorem dX12_isWord_58 : decode cX12_isWord 58 = .ok (.ifCond .le 20, 3) := by decide +kernel
theorem dX12_isWord_61 : decode cX12_isWord 61 = .ok (.iload 5, 2) := by decide +kernel
theorem dX12_isWord_63 : decode cX12_isWord 63 = .ok (.bipush 8, 2) := by decide +kernel
theorem dX12_isWord_65 : decode cX12_isWord 65 = .ok (.if_icmp .ge 13, 3) := by decide +kernel
theorem dX12_isWord_68 : decode cX12_isWord 68 = .ok (.lload_n 3, 1) := by decide +kernel
theorem dX12_isWord_69 : decode cX12_isWord 69 = .ok (.lload_n 1, 1) := by decide +kernel
theorem dX12_isWord_70 : decode cX12_isWord 70 = .ok (.lcmp, 1) := by decide +kernel
theorem dX12_isWord_71 : decode cX12_isWord 71 = .ok (.ifCond .ne 7, 3) := by decide +kernel
theorem dX12_isWord_74 : decode cX12_isWord 74 = .ok (.iconst 1, 1) := by decide +kernel
theorem dX12_isWord_75 : decode cX12_isWord 75 = .ok (.goto 4, 3) := by decide +kernel
theorem dX12_isWord_78 : decode cX12_isWord 78 = .ok (.iconst 0, 1) := by decide +kernel
theorem dX12_isWord_79 : decode cX12_isWord 79 = .ok (.ireturn, 1) := by decide +kernel
theorem dX12_wordHere_0 : decode cX12_wordHere 0 = .ok (.aload_n 0, 1) := by decide +kernel
theorem dX12_wordHere_1 : decode cX12_wordHere 1 = .ok (.ldc2_w 125, 3) := by decide +kernel
theorem dX12_wordHere_4 : decode cX12_wordHere 4 = .ok (.invokevirtual 104, 3) := by decide +kernel
theorem dX12_wordHere_7 : decode cX12_wordHere 7 = .ok (.ifCond .eq 5, 3) := by decide +kernel
theorem dX12_wordHere_10 : decode cX12_wordHere 10 = .ok (.iconst 0, 1) := by decide +kernel
theorem dX12_wordHere_11 : decode cX12_wordHere 11 = .ok (.ireturn, 1) := by decide +kernel
theorem dX12_wordHere_12 : decode cX12_wordHere 12 = .ok (.aload_n 0, 1) := by decide +kernel
theorem dX12_wordHere_13 : decode cX12_wordHere 13 = .ok (.ldc2_w 127, 3) := by decide +kernel
theorem dX12_wordHere_16 : decode cX12_wordHere 16 = .ok (.invokevirtual 104, 3) := by decide +kernel
theorem dX12_wordHere_19 : decode cX12_wordHere 19 = .ok (.ifCond .eq 5, 3) := by decide +kernel
theorem dX12_wordHere_22 : decode cX12_wordHere 22 = .ok (.iconst 1, 1) := by decide +kernel
theorem dX12_wordHere_23 : decode cX12_wordHere 23 = .ok (.ireturn, 1) := by decide +kernel
theorem dX12_wordHere_24 : decode cX12_wordHere 24 = .ok (.aload_n 0, 1) := by decide +kernel
theorem dX12_wordHere_25 : decode cX12_wordHere 25 = .ok (.ldc2_w 129, 3) := by decide +kernel
theorem dX12_wordHere_28 : decode cX12_wordHere 28 = .ok (.invokevirtual 104, 3) := by decide +kernel
theorem dX12_wordHere_31 : decode cX12_wordHere 31 = .ok (.ifCond .eq 5, 3) := by decide +kernel
theorem dX12_wordHere_34 : decode cX12_wordHere 34 = .ok (.iconst 2, 1) := by decide +kernel
theorem dX12_wordHere_35 : decode cX12_wordHere 35 = .ok (.ireturn, 1) := by decide +kernel
theorem dX12_wordHere_36 : decode cX12_wordHere 36 = .ok (.aload_n 0, 1) := by decide +kernel
theorem dX12_wordHere_37 : decode cX12_wordHere 37 = .ok (.ldc2_w 131, 3) := by decide +kernel
theorem dX12_wordHere_40 : decode cX12_wordHere 40 = .ok (.invokevirtual 104, 3) := by decide +kernel
theorem dX12_wordHere_43 : decode cX12_wordHere 43 = .ok (.ifCond .eq 5, 3) := by decide +kernel
theorem dX12_wordHere_46 : decode cX12_wordHere 46 = .ok (.iconst 3, 1) := by decide +kernel
theorem dX12_wordHere_47 : decode cX12_wordHere 47 = .ok (.ireturn, 1) := by decide +kernel
theorem dX12_wordHere_48 : decode cX12_wordHere 48 = .ok (.aload_n 0, 1) := by decide +kernel
theorem dX12_wordHere_49 : decode cX12_wordHere 49 = .ok (.ldc2_w 133, 3) := by decide +kernel
theorem dX12_wordHere_52 : decode cX12_wordHere 52 = .ok (.invokevirtual 104, 3) := by decide +kernel
theorem dX12_wordHere_55 : decode cX12_wordHere 55 = .ok (.ifCond .eq 5, 3) := by decide +kernel
theorem dX12_wordHere_58 : decode cX12_wordHere 58 = .ok (.iconst 4, 1) := by decide +kernel
theorem dX12_wordHere_59 : decode cX12_wordHere 59 = .ok (.ireturn, 1) := by decide +kernel
theorem dX12_wordHere_60 : decode cX12_wordHere 60 = .ok (.aload_n 0, 1) := by decide +kernel
theorem dX12_wordHere_61 : decode cX12_wordHere 61 = .ok (.ldc2_w 135, 3) := by decide +kernel
theorem dX12_wordHere_64 : decode cX12_wordHere 64 = .ok (.invokevirtual 104, 3) := by decide +kernel
theorem dX12_wordHere_67 : decode cX12_wordHere 67 = .ok (.ifCond .eq 5, 3) := by decide +kernel
theorem dX12_wordHere_70 : decode cX12_wordHere 70 = .ok (.iconst 5, 1) := by decide +kernel
theorem dX12_wordHere_71 : decode cX12_wordHere 71 = .ok (.ireturn, 1) := by decide +kernel
theorem dX12_wordHere_72 : decode cX12_wordHere 72 = .ok (.aload_n 0, 1) := by decide +kernel
theorem dX12_wordHere_73 : decode cX12_wordHere 73 = .ok (.ldc2_w 137, 3) := by decide +kernel
theorem dX12_wordHere_76 : decode cX12_wordHere 76 = .ok (.invokevirtual 104, 3) := by decide +kernel
theorem dX12_wordHere_79 : decode cX12_wordHere 79 = .ok (.ifCond .eq 6, 3) := by decide +kernel
theorem dX12_wordHere_82 : decode cX12_wordHere 82 = .ok (.bipush 6, 2) := by decide +kernel
theorem dX12_wordHere_84 : decode cX12_wordHere 84 = .ok (.ireturn, 1) := by decide +kernel
theorem dX12_wordHere_85 : decode cX12_wordHere 85 = .ok (.aload_n 0, 1) := by decide +kernel
theorem dX12_wordHere_86 : decode cX12_wordHere 86 = .ok (.ldc2_w 139, 3) := by decide +kernel
theorem dX12_wordHere_89 : decode cX12_wordHere 89 = .ok (.invokevirtual 104, 3) := by decide +kernel
theorem dX12_wordHere_92 : decode cX12_wordHere 92 = .ok (.ifCond .eq 6, 3) := by decide +kernel
theorem dX12_wordHere_95 : decode cX12_wordHere 95 = .ok (.bipush 7, 2) := by decide +kernel
theorem dX12_wordHere_97 : decode cX12_wordHere 97 = .ok (.ireturn, 1) := by decide +kernel
theorem dX12_wordHere_98 : decode cX12_wordHere 98 = .ok (.aload_n 0, 1) := by decide +kernel
theorem dX12_wordHere_99 : decode cX12_wordHere 99 = .ok (.ldc2_w 141, 3) := by decide +kernel
theorem dX12_wordHere_102 : decode cX12_wordHere 102 = .ok (.invokevirtual 104, 3) := by decide +kernel
theorem dX12_wordHere_105 : decode cX12_wordHere 105 = .ok (.ifCond .eq 6, 3) := by decide +kernel
theorem dX12_wordHere_108 : decode cX12_wordHere 108 = .ok (.bipush 8, 2) := by decide +kernel
theorem dX12_wordHere_110 : decode cX12_wordHere 110 = .ok (.ireturn, 1) := by decide +kernel
theorem dX12_wordHere_111 : decode cX12_wordHere 111 = .ok (.aload_n 0, 1) := by decide +kernel
theorem dX12_wordHere_112 : decode cX12_wordHere 112 = .ok (.ldc2_w 143, 3) := by decide +kernel
theorem dX12_wordHere_115 : decode cX12_wordHere 115 = .ok (.invokevirtual 104, 3) := by decide +kernel
theorem dX12_wordHere_118 : decode cX12_wordHere 118 = .ok (.ifCond .eq 8, 3) := by decide +kernel
theorem dX12_wordHere_121 : decode cX12_wordHere 121 = .ok (.bipush 9, 2) := by decide +kernel
theorem dX12_wordHere_123 : decode cX12_wordHere 123 = .ok (.goto 19, 3) := by decide +kernel
theorem dX12_wordHere_126 : decode cX12_wordHere 126 = .ok (.aload_n 0, 1) := by decide +kernel
theorem dX12_wordHere_127 : decode cX12_wordHere 127 = .ok (.ldc2_w 145, 3) := by decide +kernel
theorem dX12_wordHere_130 : decode cX12_wordHere 130 = .ok (.invokevirtual 104, 3) := by decide +kernel
theorem dX12_wordHere_133 : decode cX12_wordHere 133 = .ok (.ifCond .eq 8, 3) := by decide +kernel
theorem dX12_wordHere_136 : decode cX12_wordHere 136 = .ok (.bipush 10, 2) := by decide +kernel
theorem dX12_wordHere_138 : decode cX12_wordHere 138 = .ok (.goto 4, 3) := by decide +kernel
theorem dX12_wordHere_141 : decode cX12_wordHere 141 = .ok (.iconst (-1), 1) := by decide +kernel
theorem dX12_wordHere_142 : decode cX12_wordHere 142 = .ok (.ireturn, 1) := by decide +kernel
set_option maxHeartbeats 4000000 in
set_option maxRecDepth 100000 in
theorem t_X12_isSnowHere (l : Launch) (dC : Nat → ClassId) (dI : Nat → Nat → Nat) (tys : List (ClassId × FieldType)) (κ : tK) (B : Nat) (ws : va_W) (hT : Ty κ tys B ws) (a0 : Nat) (k_a0 : κ a0 = some 12) (sz : Nat) : Met l yX12_isSnowHere (ws_u yX12_isSnowHere cX12_isSnowHere 1 (some .boolean)) ({ frames := 2, cells := 0, slots := 0, locals := 49 }) (va_Pc [.ref a0] (cPre (dC, dI) tys ws sz)) (va_Qi (fun (r : Int32) (w : va_W) => 0 ≤ r.toInt ∧ r.toInt ≤ 1 ∧ Ty κ tys B w ∧ Sm [(12, 8), (12, 9), (12, 10)] [59] κ ws w) (fun w t => cPost (dC, dI) tys w (va_A ws sz) t) (va_A ws sz)) 0 0 (va_A ws sz) := by
  refine Met.ofW (cc := cX12_isSnowHere) (maxL := 1) (ret := (some .boolean)) (by decide) rfl ?_
  intro p e s m args below meth c s₁ B0 hml hv
  obtain ⟨rfl, hsz, hP, hK, hD0, hE⟩ := hv
  have hx := B0.exec
  have hb := B0.bytes
  have hr := B0.returns
  have hts0 := atoms_spec (ws := ws_u yX12_isSnowHere cX12_isSnowHere 1 (some .boolean)) B0.pre
  have hts : ∀ w ∈ gT, w.before _ s = true := fun w h => hts0 w (List.mem_cons_of_mem _ h)
  have hown : s.vm.findClass RX12 = some m.cls := findClass_of_methodNamed B0.named
  have hlocks := B0.notSynchronized
  subst hsz
  have hD := hD0.self (sz := s.heap.size)
  generalize hAe : va_A ws s.heap.size = A at hD ⊢
  have hA : ∀ q : Nat, s.heap.size ≤ q → A q := fun q h => by rw [← hAe]; exact Or.inr h
  have hw : tW (dC, dI) tys κ B A s ws s.heap [] := ⟨hK, hP, hD, va_S.rf, hT⟩
  have hM : Sm [(12, 8), (12, 9), (12, 10)] [59] κ ws ws := Sm.rf
  clear hP hK hD hD0 hts0
  have hl := lv_entry ([.ref a0]) (n := 1) (Nat.le_of_ble_eq_true rfl)
  rw [lg_entry_eq]
  generalize (lg_sl ([.ref a0]) ++ List.replicate (1 - (lg_sl ([.ref a0])).length) Slot.unset).toArray = ls at hl ⊢
  have hl : lv_has ls 1 [(0, .ref a0)] := hl
  refine t_start (fun QQ hQ => ?_)
  refine lv_aload_n hx hb dX12_isSnowHere_0 rfl (lv_at hl 0 rfl) ?_
  obtain ⟨u_v1q0, q_v1q0, f_a0_X12_8⟩ := t_peek (k := 8) hw.2.2.2.2 k_a0 rfl (by decide)
  obtain ⟨v1q0, rfl, l_v1q0, h_v1q0⟩ := q_v1q0.geti (lo := 0) (hi := 401) rfl
  obtain ⟨u_v1q1, q_v1q1, f_a0_X12_1⟩ := t_peek (k := 1) hw.2.2.2.2 k_a0 rfl (by decide)
  obtain ⟨v1q1, rfl, l_v1q1, h_v1q1⟩ := q_v1q1.geti (lo := 0) (hi := 400) rfl
  refine t_callv (va_runV (As := []) (rest := []) ⟨hx, hb, hml, hown, hts⟩ (t_X12_passWord l dC dI tys κ B ws hw.2.2.2.2 a0 k_a0 v1q0 (by omega) (by omega) f_a0_X12_8 v1q1 (by omega) (by omega) f_a0_X12_1 s.heap.size) (cwV 0 hts (gUV tw_1300 tw_1302 ts_3_10 tw_13 tw_1303) rfl rfl rfl (by decide +kernel) ⟨(Nat.le_of_ble_eq_true rfl), (Nat.le_of_ble_eq_true rfl)⟩) ⟨cPre.blind, t_recv hw (ci := 12) k_a0 rfl rfl, cPre.use hw.2.1 hw.1 hw.2.2.1 hE⟩ rfl rfl hl.1 rfl (lv_room (Nat.le_of_ble_eq_true rfl)) dX12_isSnowHere_1 ⟨(Nat.le_of_ble_eq_true rfl), (Nat.le_of_ble_eq_true rfl)⟩) hw hA (fun _ h => h.1) (fun w_1 H locs hp hw => ?_)
  obtain ⟨_, hm, ⟨v1n, l_v1n, h_v1n, f_a0_X12_8, y_v1⟩⟩ := hp
  have hM := hM.trans hm (by decide) (by decide)
  have f_a0_X12_1 := hm.1 _ _ _ _ f_a0_X12_1 (by decide)
  refine lv_aload_n hx hb dX12_isSnowHere_4 rfl (lv_at hl 0 rfl) ?_
  refine lv_iconst (v := 0) hx hb dX12_isSnowHere_5 (by decide) ?_
  refine lv_bipush (v := 60) hx hb dX12_isSnowHere_6 (by decide) ?_
  obtain ⟨u_v8q2, q_v8q2, f_a0_X12_10⟩ := t_peek (k := 10) hw.2.2.2.2 k_a0 rfl (by decide)
  obtain ⟨v8q2, rfl, l_v8q2, h_v8q2⟩ := q_v8q2.geti (lo := (-2147483648)) (hi := 2147483647) rfl
  refine t_calli (va_runV (As := [.int 0, .int 60]) (rest := []) ⟨hx, hb, hml, hown, hts⟩ (t_X12_numberHere l dC dI tys κ B w_1 hw.2.2.2.2 a0 k_a0 0 (by decide) (by decide) 60 (by decide) (by decide) v1n (by omega) (by omega) f_a0_X12_8 v1q1 (by omega) (by omega) f_a0_X12_1 v8q2 f_a0_X12_10 H.size) (cwV 2 hts (gUV tw_1308 tw_1310 ts_3_12 tw_13 tw_1311) rfl rfl rfl (by decide +kernel) ⟨(Nat.le_of_ble_eq_true rfl), (Nat.le_of_ble_eq_true rfl)⟩) ⟨cPre.blind, t_recv hw (ci := 12) k_a0 rfl rfl, cPre.use hw.2.1 hw.1 hw.2.2.1 hE⟩ rfl rfl hl.1 rfl (lv_room (Nat.le_of_ble_eq_true rfl)) dX12_isSnowHere_8 ⟨(Nat.le_of_ble_eq_true rfl), (Nat.le_of_ble_eq_true rfl)⟩) hw hA (fun _ _ h => h.2.2.1) (fun v8 w_2 H locs hp hw => ?_)
  obtain ⟨l_v8, h_v8, _, hm, ⟨v8n, v8m, l_v8n, h_v8n, l_v8m, h_v8m, f_a0_X12_8, f_a0_X12_10, y_v8⟩⟩ := hp
  have zc_0 := li_0
  have zc_60 := li_60
  have hM := hM.trans hm (by decide) (by decide)
  have f_a0_X12_1 := hm.1 _ _ _ _ f_a0_X12_1 (by decide)
  refine lv_if_ne (tgt := 16) hx hb dX12_isSnowHere_11 (by decide) (fun c_11 => ?_) (fun c_11 => ?_)
  · simp only [fa_lt, fa_le, fa_eq, li_0] at c_11
    refine lv_aload_n hx hb dX12_isSnowHere_16 rfl (lv_at hl 0 rfl) ?_
    refine t_getr (k1 := 59) (ci := 12) (C := RX12) (T := TX12) (N := 38) hx hb hts iX12 hown hw k_a0 rfl rfl rfl 7 (by decide) (hts _ tw_1132) (fun _ h9 => h9) dX12_isSnowHere_17 rfl (fun v17 k_v17 f_a0_X12_7 => ?_)
    refine lv_sipush (v := 224) hx hb dX12_isSnowHere_20 (by decide) ?_
    refine lv_aload_n hx hb dX12_isSnowHere_23 rfl (lv_at hl 0 rfl) ?_
    refine t_getk (ci := 12) (C := RX12) (T := TX12) (N := 38) hx hb hts iX12 hown hw rfl 10 (by decide) (hts _ tw_1135) (fun _ h9 => h9) dX12_isSnowHere_24 f_a0_X12_10 ?_
    refine lv_iadd hx hb dX12_isSnowHere_27 ?_
    refine lv_topi (fun v27 e_v27 => ?_)
    have e_v27 : v27.toInt = 224 + v8m.toInt := ad_i e_v27 li_224 rfl (by omega) (by omega)
    refine lv_iconst (v := 1) hx hb dX12_isSnowHere_28 (by decide) ?_
    refine t_iast hx hb hw k_v17 rfl rfl (by omega) (show v27.toInt < 285 by omega) (by rw [fr_59 (by omega) (by omega)]; exact i32_lo _) (by rw [fr_59 (by omega) (by omega)]; exact i32_hi _) dX12_isSnowHere_29 (fun w_3 H locs hw u => ?_)
    have hM := hM.up3 u k_v17 (by decide)
    have f_a0_X12_1 := u.1 _ _ _ _ f_a0_X12_1
    have f_a0_X12_8 := u.1 _ _ _ _ f_a0_X12_8
    have f_a0_X12_10 := u.1 _ _ _ _ f_a0_X12_10
    have f_a0_X12_7 := u.1 _ _ _ _ f_a0_X12_7
    refine lv_iconst (v := 1) hx hb dX12_isSnowHere_30 (by decide) ?_
    rw [hQ]
    refine W.widen (k := 0) (n := 0) (Nat.le_refl _) (Nat.le_refl _) ?_
    exact W.zret (v := 1) hx hb hr rfl (fun t ht hW => ⟨⟨1, w_3, rfl, ⟨(by decide), (by decide), hw.2.2.2.2, hM⟩, by rw [ht]; exact hw.2.1, va_K.moved hW.alike hw.1, hw.2.2.1⟩, hw.2.2.2.1.F ht⟩) hw.2.2.2.1.2.2 dX12_isSnowHere_31
  · simp only [fa_lt, fa_le, fa_eq, li_0] at c_11
    refine lv_iconst (v := 0) hx hb dX12_isSnowHere_14 (by decide) ?_
    rw [hQ]
    refine W.widen (k := 0) (n := 0) (Nat.le_refl _) (Nat.le_refl _) ?_
    exact W.zret (v := 0) hx hb hr rfl (fun t ht hW => ⟨⟨0, w_2, rfl, ⟨(by decide), (by decide), hw.2.2.2.2, hM⟩, by rw [ht]; exact hw.2.1, va_K.moved hW.alike hw.1, hw.2.2.1⟩, hw.2.2.2.1.F ht⟩) hw.2.2.2.1.2.2 dX12_isSnowHere_15
set_option maxHeartbeats 4000000 in
set_option maxRecDepth 100000 in
theorem t_X12_isWayHere (l : Launch) (dC : Nat → ClassId) (dI : Nat → Nat → Nat) (tys : List (ClassId × FieldType)) (κ : tK) (B : Nat) (ws : va_W) (hT : Ty κ tys B ws) (a0 : Nat) (k_a0 : κ a0 = some 12) (sz : Nat) : Met l yX12_isWayHere (ws_u yX12_isWayHere cX12_isWayHere 4 (some .boolean)) ({ frames := 3, cells := 0, slots := 0, locals := 72 }) (va_Pc [.ref a0] (cPre (dC, dI) tys ws sz)) (va_Qi (fun (r : Int32) (w : va_W) => 0 ≤ r.toInt ∧ r.toInt ≤ 1 ∧ Ty κ tys B w ∧ Sm [(12, 8), (12, 9), (12, 10)] [59] κ ws w) (fun w t => cPost (dC, dI) tys w (va_A ws sz) t) (va_A ws sz)) 0 0 (va_A ws sz) := by
  refine Met.ofW (cc := cX12_isWayHere) (maxL := 4) (ret := (some .boolean)) (by decide) rfl ?_
  intro p e s m args below meth c s₁ B0 hml hv
  obtain ⟨rfl, hsz, hP, hK, hD0, hE⟩ := hv
  have hx := B0.exec
  have hb := B0.bytes
  have hr := B0.returns
  have hts0 := atoms_spec (ws := ws_u yX12_isWayHere cX12_isWayHere 4 (some .boolean)) B0.pre
  have hts : ∀ w ∈ gT, w.before _ s = true := fun w h => hts0 w (List.mem_cons_of_mem _ h)
  have hown : s.vm.findClass RX12 = some m.cls := findClass_of_methodNamed B0.named
  have hlocks := B0.notSynchronized
  subst hsz
  have hD := hD0.self (sz := s.heap.size)
  generalize hAe : va_A ws s.heap.size = A at hD ⊢
  have hA : ∀ q : Nat, s.heap.size ≤ q → A q := fun q h => by rw [← hAe]; exact Or.inr h
  have hw : tW (dC, dI) tys κ B A s ws s.heap [] := ⟨hK, hP, hD, va_S.rf, hT⟩
  have hM : Sm [(12, 8), (12, 9), (12, 10)] [59] κ ws ws := Sm.rf
  clear hP hK hD hD0 hts0
  have hl := lv_entry ([.ref a0]) (n := 4) (Nat.le_of_ble_eq_true rfl)
  rw [lg_entry_eq]
  generalize (lg_sl ([.ref a0]) ++ List.replicate (4 - (lg_sl ([.ref a0])).length) Slot.unset).toArray = ls at hl ⊢
  have hl : lv_has ls 4 [(0, .ref a0)] := hl
  refine t_start (fun QQ hQ => ?_)
  refine lv_aload_n hx hb dX12_isWayHere_0 rfl (lv_at hl 0 rfl) ?_
  obtain ⟨u_v1q0, q_v1q0, f_a0_X12_8⟩ := t_peek (k := 8) hw.2.2.2.2 k_a0 rfl (by decide)
  obtain ⟨v1q0, rfl, l_v1q0, h_v1q0⟩ := q_v1q0.geti (lo := 0) (hi := 401) rfl
  obtain ⟨u_v1q1, q_v1q1, f_a0_X12_1⟩ := t_peek (k := 1) hw.2.2.2.2 k_a0 rfl (by decide)
  obtain ⟨v1q1, rfl, l_v1q1, h_v1q1⟩ := q_v1q1.geti (lo := 0) (hi := 400) rfl
  refine t_callv (va_runV (As := []) (rest := []) ⟨hx, hb, hml, hown, hts⟩ (t_X12_passWord l dC dI tys κ B ws hw.2.2.2.2 a0 k_a0 v1q0 (by omega) (by omega) f_a0_X12_8 v1q1 (by omega) (by omega) f_a0_X12_1 s.heap.size) (cwV 0 hts (gUV tw_1300 tw_1302 ts_3_10 tw_13 tw_1303) rfl rfl rfl (by decide +kernel) ⟨(Nat.le_of_ble_eq_true rfl), (Nat.le_of_ble_eq_true rfl)⟩) ⟨cPre.blind, t_recv hw (ci := 12) k_a0 rfl rfl, cPre.use hw.2.1 hw.1 hw.2.2.1 hE⟩ rfl rfl hl.1 rfl (lv_room (Nat.le_of_ble_eq_true rfl)) dX12_isWayHere_1 ⟨(Nat.le_of_ble_eq_true rfl), (Nat.le_of_ble_eq_true rfl)⟩) hw hA (fun _ h => h.1) (fun w_1 H locs hp hw => ?_)
  obtain ⟨_, hm, ⟨v1n, l_v1n, h_v1n, f_a0_X12_8, y_v1⟩⟩ := hp
  have hM := hM.trans hm (by decide) (by decide)
  have f_a0_X12_1 := hm.1 _ _ _ _ f_a0_X12_1 (by decide)
  refine lv_aload_n hx hb dX12_isWayHere_4 rfl (lv_at hl 0 rfl) ?_
  refine lv_iconst (v := 0) hx hb dX12_isWayHere_5 (by decide) ?_
  refine lv_aload_n hx hb dX12_isWayHere_6 rfl (lv_at hl 0 rfl) ?_
  refine t_getr (k1 := 59) (ci := 12) (C := RX12) (T := TX12) (N := 38) hx hb hts iX12 hown hw k_a0 rfl rfl rfl 7 (by decide) (hts _ tw_1132) (fun _ h9 => h9) dX12_isWayHere_7 rfl (fun v7 k_v7 f_a0_X12_7 => ?_)
  refine lv_iconst (v := 5) hx hb dX12_isWayHere_10 (by decide) ?_
  refine t_iald hx hb hw k_v7 rfl rfl (by decide) (by decide) dX12_isWayHere_11 (fun v11 r_v11 s_v11 f_v7_M_read_5 => ?_)
  have l_v11 : 0 ≤ v11.toInt := by rw [iv_59_5] at r_v11; exact r_v11
  have h_v11 : v11.toInt ≤ 6 := by rw [iv_59_5] at s_v11; exact s_v11
  obtain ⟨u_v12q2, q_v12q2, f_a0_X12_10⟩ := t_peek (k := 10) hw.2.2.2.2 k_a0 rfl (by decide)
  obtain ⟨v12q2, rfl, l_v12q2, h_v12q2⟩ := q_v12q2.geti (lo := (-2147483648)) (hi := 2147483647) rfl
  refine t_calli (va_runV (As := [.int 0, .int v11]) (rest := []) ⟨hx, hb, hml, hown, hts⟩ (t_X12_numberHere l dC dI tys κ B w_1 hw.2.2.2.2 a0 k_a0 0 (by decide) (by decide) v11 (by omega) (by omega) v1n (by omega) (by omega) f_a0_X12_8 v1q1 (by omega) (by omega) f_a0_X12_1 v12q2 f_a0_X12_10 H.size) (cwV 2 hts (gUV tw_1308 tw_1310 ts_3_12 tw_13 tw_1311) rfl rfl rfl (by decide +kernel) ⟨(Nat.le_of_ble_eq_true rfl), (Nat.le_of_ble_eq_true rfl)⟩) ⟨cPre.blind, t_recv hw (ci := 12) k_a0 rfl rfl, cPre.use hw.2.1 hw.1 hw.2.2.1 hE⟩ rfl rfl hl.1 rfl (lv_room (Nat.le_of_ble_eq_true rfl)) dX12_isWayHere_12 ⟨(Nat.le_of_ble_eq_true rfl), (Nat.le_of_ble_eq_true rfl)⟩) hw hA (fun _ _ h => h.2.2.1) (fun v12 w_2 H locs hp hw => ?_)
  obtain ⟨l_v12, h_v12, _, hm, ⟨v12n, v12m, l_v12n, h_v12n, l_v12m, h_v12m, f_a0_X12_8, f_a0_X12_10, y_v12⟩⟩ := hp
  have zc_0 := li_0
  have hM := hM.trans hm (by decide) (by decide)
  have f_a0_X12_1 := hm.1 _ _ _ _ f_a0_X12_1 (by decide)
  have f_a0_X12_7 := hm.1 _ _ _ _ f_a0_X12_7 (by decide)
  have f_v7_M_read_5 := hm.elt k_v7 (by decide) f_v7_M_read_5
  refine lv_if_ne (tgt := 20) hx hb dX12_isWayHere_15 (by decide) (fun c_15 => ?_) (fun c_15 => ?_)
  · simp only [fa_lt, fa_le, fa_eq, li_0] at c_15
    refine lv_aload_n hx hb dX12_isWayHere_20 rfl (lv_at hl 0 rfl) ?_
    refine t_getk (ci := 12) (C := RX12) (T := TX12) (N := 38) hx hb hts iX12 hown hw rfl 10 (by decide) (hts _ tw_1135) (fun _ h9 => h9) dX12_isWayHere_21 f_a0_X12_10 ?_
    refine lv_istore_n (lv' := [(1, .int v12m), (0, .ref a0)]) hx hb dX12_isWayHere_24 rfl hl (by decide) rfl (fun ls hl => ?_)
    refine lv_aload_n hx hb dX12_isWayHere_25 rfl (lv_at hl 1 rfl) ?_
    refine t_calli (va_runV (As := []) (rest := []) ⟨hx, hb, hml, hown, hts⟩ (t_X12_see l dC dI tys κ B w_2 hw.2.2.2.2 a0 k_a0 v12n (by omega) (by omega) f_a0_X12_8 v1q1 (by omega) (by omega) f_a0_X12_1 H.size) (cwV 0 hts (gUV tw_1264 tw_1266 ts_3_3 tw_13 tw_1267) rfl rfl rfl (by decide +kernel) ⟨(Nat.le_of_ble_eq_true rfl), (Nat.le_of_ble_eq_true rfl)⟩) ⟨cPre.blind, t_recv hw (ci := 12) k_a0 rfl rfl, cPre.use hw.2.1 hw.1 hw.2.2.1 hE⟩ rfl rfl hl.1 rfl (lv_room (Nat.le_of_ble_eq_true rfl)) dX12_isWayHere_26 ⟨(Nat.le_of_ble_eq_true rfl), (Nat.le_of_ble_eq_true rfl)⟩) hw hA (fun _ _ h => h.2.2.1) (fun v26 w_3 H locs hp hw => ?_)
    obtain ⟨l_v26, h_v26, _, hm, ⟨v26n, l_v26n, h_v26n, f_a0_X12_8, y_v26⟩⟩ := hp
    have hM := hM.trans hm (by decide) (by decide)
    have f_a0_X12_1 := hm.1 _ _ _ _ f_a0_X12_1 (by decide)
    have f_a0_X12_7 := hm.1 _ _ _ _ f_a0_X12_7 (by decide)
    have f_v7_M_read_5 := hm.elt k_v7 (by decide) f_v7_M_read_5
    have f_a0_X12_10 := hm.1 _ _ _ _ f_a0_X12_10 (by decide)
    refine lv_pop hx hb dX12_isWayHere_29 rfl ?_
    refine lv_aload_n hx hb dX12_isWayHere_30 rfl (lv_at hl 1 rfl) ?_
    refine t_getk (ci := 12) (C := RX12) (T := TX12) (N := 38) hx hb hts iX12 hown hw rfl 8 (by decide) (hts _ tw_1133) (fun _ h9 => h9) dX12_isWayHere_31 f_a0_X12_8 ?_
    refine lv_istore_n (lv' := [(2, .int v26n), (1, .int v12m), (0, .ref a0)]) hx hb dX12_isWayHere_34 rfl hl (by decide) rfl (fun ls hl => ?_)
    refine lv_aload_n hx hb dX12_isWayHere_35 rfl (lv_at hl 2 rfl) ?_
    refine lv_iconst (v := 0) hx hb dX12_isWayHere_36 (by decide) ?_
    refine lv_aload_n hx hb dX12_isWayHere_37 rfl (lv_at hl 2 rfl) ?_
    refine t_getk (ci := 12) (C := RX12) (T := TX12) (N := 38) hx hb hts iX12 hown hw rfl 7 (by decide) (hts _ tw_1132) (fun _ h9 => h9) dX12_isWayHere_38 f_a0_X12_7 ?_
    refine lv_iconst (v := 5) hx hb dX12_isWayHere_41 (by decide) ?_
    refine t_ialdk hx hb hw k_v7 rfl rfl (by decide) (by decide) f_v7_M_read_5 dX12_isWayHere_42 ?_
    refine t_calli (va_runV (As := [.int 0, .int v11]) (rest := []) ⟨hx, hb, hml, hown, hts⟩ (t_X12_numberHere l dC dI tys κ B w_3 hw.2.2.2.2 a0 k_a0 0 (by decide) (by decide) v11 (by omega) (by omega) v26n (by omega) (by omega) f_a0_X12_8 v1q1 (by omega) (by omega) f_a0_X12_1 v12m f_a0_X12_10 H.size) (cwV 2 hts (gUV tw_1308 tw_1310 ts_3_12 tw_13 tw_1311) rfl rfl rfl (by decide +kernel) ⟨(Nat.le_of_ble_eq_true rfl), (Nat.le_of_ble_eq_true rfl)⟩) ⟨cPre.blind, t_recv hw (ci := 12) k_a0 rfl rfl, cPre.use hw.2.1 hw.1 hw.2.2.1 hE⟩ rfl rfl hl.1 rfl (lv_room (Nat.le_of_ble_eq_true rfl)) dX12_isWayHere_43 ⟨(Nat.le_of_ble_eq_true rfl), (Nat.le_of_ble_eq_true rfl)⟩) hw hA (fun _ _ h => h.2.2.1) (fun v43 w_4 H locs hp hw => ?_)
    obtain ⟨l_v43, h_v43, _, hm, ⟨v43n, v43m, l_v43n, h_v43n, l_v43m, h_v43m, f_a0_X12_8, f_a0_X12_10, y_v43⟩⟩ := hp
    have zc_0 := li_0
    have hM := hM.trans hm (by decide) (by decide)
    have f_a0_X12_1 := hm.1 _ _ _ _ f_a0_X12_1 (by decide)
    have f_a0_X12_7 := hm.1 _ _ _ _ f_a0_X12_7 (by decide)
    have f_v7_M_read_5 := hm.elt k_v7 (by decide) f_v7_M_read_5
    refine lv_if_ne (tgt := 51) hx hb dX12_isWayHere_46 (by decide) (fun c_46 => ?_) (fun c_46 => ?_)
    · simp only [fa_lt, fa_le, fa_eq, li_0] at c_46
      refine lv_aload_n hx hb dX12_isWayHere_51 rfl (lv_at hl 2 rfl) ?_
      refine t_getk (ci := 12) (C := RX12) (T := TX12) (N := 38) hx hb hts iX12 hown hw rfl 10 (by decide) (hts _ tw_1135) (fun _ h9 => h9) dX12_isWayHere_52 f_a0_X12_10 ?_
      refine lv_istore_n (lv' := [(3, .int v43m), (2, .int v26n), (1, .int v12m), (0, .ref a0)]) hx hb dX12_isWayHere_55 rfl hl (by decide) rfl (fun ls hl => ?_)
      refine lv_iload_n hx hb dX12_isWayHere_56 rfl (lv_at hl 2 rfl) ?_
      refine lv_iload_n hx hb dX12_isWayHere_57 rfl (lv_at hl 0 rfl) ?_
      refine lv_icmp_ne (tgt := 68) hx hb dX12_isWayHere_58 (by decide) (fun c_58 => ?_) (fun c_58 => ?_)
      · simp only [fa_lt, fa_le, fa_eq] at c_58
        refine lv_aload_n hx hb dX12_isWayHere_68 rfl (lv_at hl 3 rfl) ?_
        refine lv_bipush (v := 126) hx hb dX12_isWayHere_69 (by decide) ?_
        refine lv_bipush (v := 7) hx hb dX12_isWayHere_71 (by decide) ?_
        refine lv_iload_n hx hb dX12_isWayHere_73 rfl (lv_at hl 2 rfl) ?_
        refine lv_imul hx hb dX12_isWayHere_74 ?_
        refine lv_topi (fun v74 e_v74 => ?_)
        have e_v74 : v74.toInt = 7 * v12m.toInt := ml_i e_v74 li_7 rfl (by omega) (by omega)
        refine lv_iadd hx hb dX12_isWayHere_75 ?_
        refine lv_topi (fun v75 e_v75 => ?_)
        have e_v75 : v75.toInt = 126 + v74.toInt := ad_i e_v75 li_126 rfl (by omega) (by omega)
        refine lv_iload_n hx hb dX12_isWayHere_76 rfl (lv_at hl 0 rfl) ?_
        refine lv_iadd hx hb dX12_isWayHere_77 ?_
        refine lv_topi (fun v77 e_v77 => ?_)
        have e_v77 : v77.toInt = v75.toInt + v43m.toInt := ad_i e_v77 rfl rfl (by omega) (by omega)
        refine lv_iconst (v := 1) hx hb dX12_isWayHere_78 (by decide) ?_
        refine lv_bipush (v := 12) hx hb dX12_isWayHere_79 (by decide) ?_
        obtain ⟨v81q3, r_v81q3, s_v81q3, f_v7_M_read_0⟩ := t_peeke (i := (0 : Int32)) hw.2.2.2.2 k_v7 rfl (by decide)
        have l_v81q3 : 0 ≤ v81q3.toInt := by rw [iv_59_0] at r_v81q3; exact r_v81q3
        have h_v81q3 : v81q3.toInt ≤ 1 := by rw [iv_59_0] at s_v81q3; exact s_v81q3
        obtain ⟨v81q4, r_v81q4, s_v81q4, f_v7_M_read_3⟩ := t_peeke (i := (3 : Int32)) hw.2.2.2.2 k_v7 rfl (by decide)
        have l_v81q4 : 0 ≤ v81q4.toInt := by rw [iv_59_3] at r_v81q4; exact r_v81q4
        have h_v81q4 : v81q4.toInt ≤ 6 := by rw [iv_59_3] at s_v81q4; exact s_v81q4
        obtain ⟨v81q5, r_v81q5, s_v81q5, f_v7_M_read_4⟩ := t_peeke (i := (4 : Int32)) hw.2.2.2.2 k_v7 rfl (by decide)
        have l_v81q5 : 0 ≤ v81q5.toInt := by rw [iv_59_4] at r_v81q5; exact r_v81q5
        have h_v81q5 : v81q5.toInt ≤ 4 := by rw [iv_59_4] at s_v81q5; exact s_v81q5
        refine t_calli (va_runV (As := [.int v77, .int 1, .int 12]) (rest := []) ⟨hx, hb, hml, hown, hts⟩ (t_X12_cellHere l dC dI tys κ B w_4 hw.2.2.2.2 a0 k_a0 v77 (by omega) (by omega) 1 (by decide) (by decide) 12 (by decide) (by decide) v43n (by omega) (by omega) f_a0_X12_8 v1q1 (by omega) (by omega) f_a0_X12_1 v7 k_v7 f_a0_X12_7 v81q3 (by omega) (by omega) f_v7_M_read_0 v81q4 (by omega) (by omega) f_v7_M_read_3 v81q5 (by omega) (by omega) f_v7_M_read_4 v11 (by omega) (by omega) f_v7_M_read_5 v43m f_a0_X12_10 (by have := li_1; have := li_12; omega) H.size) (cwV 3 hts (gUV tw_1304 tw_1306 ts_3_11 tw_13 tw_1307) rfl rfl rfl (by decide +kernel) ⟨(Nat.le_of_ble_eq_true rfl), (Nat.le_of_ble_eq_true rfl)⟩) ⟨cPre.blind, t_recv hw (ci := 12) k_a0 rfl rfl, cPre.use hw.2.1 hw.1 hw.2.2.1 hE⟩ rfl rfl hl.1 rfl (lv_room (Nat.le_of_ble_eq_true rfl)) dX12_isWayHere_81 ⟨(Nat.le_of_ble_eq_true rfl), (Nat.le_of_ble_eq_true rfl)⟩) hw hA (fun _ _ h => h.2.2.1) (fun v81 w_5 H locs hp hw => ?_)
        obtain ⟨l_v81, h_v81, _, hm, f_v7_M_read_0, f_v7_M_read_3, f_v7_M_read_4, f_v7_M_read_5, ⟨v81n, v81m, l_v81n, h_v81n, l_v81m, h_v81m, f_a0_X12_8, f_a0_X12_10, y_v81⟩⟩ := hp
        have zc_1 := li_1
        have zc_12 := li_12
        have hM := hM.trans hm (by decide) (by decide)
        have f_a0_X12_1 := hm.1 _ _ _ _ f_a0_X12_1 (by decide)
        have f_a0_X12_7 := hm.1 _ _ _ _ f_a0_X12_7 (by decide)
        refine lv_if_ne (tgt := 89) hx hb dX12_isWayHere_84 (by decide) (fun c_84 => ?_) (fun c_84 => ?_)
        · simp only [fa_lt, fa_le, fa_eq, li_0] at c_84
          refine lv_aload_n hx hb dX12_isWayHere_89 rfl (lv_at hl 3 rfl) ?_
          refine t_getk (ci := 12) (C := RX12) (T := TX12) (N := 38) hx hb hts iX12 hown hw rfl 7 (by decide) (hts _ tw_1132) (fun _ h9 => h9) dX12_isWayHere_90 f_a0_X12_7 ?_
          refine lv_bipush (v := 126) hx hb dX12_isWayHere_93 (by decide) ?_
          refine lv_bipush (v := 7) hx hb dX12_isWayHere_95 (by decide) ?_
          refine lv_iload_n hx hb dX12_isWayHere_97 rfl (lv_at hl 0 rfl) ?_
          refine lv_imul hx hb dX12_isWayHere_98 ?_
          refine lv_topi (fun v98 e_v98 => ?_)
          have e_v98 : v98.toInt = 7 * v43m.toInt := ml_i e_v98 li_7 rfl (by omega) (by omega)
          refine lv_iadd hx hb dX12_isWayHere_99 ?_
          refine lv_topi (fun v99 e_v99 => ?_)
          have e_v99 : v99.toInt = 126 + v98.toInt := ad_i e_v99 li_126 rfl (by omega) (by omega)
          refine lv_iload_n hx hb dX12_isWayHere_100 rfl (lv_at hl 2 rfl) ?_
          refine lv_iadd hx hb dX12_isWayHere_101 ?_
          refine lv_topi (fun v101 e_v101 => ?_)
          have e_v101 : v101.toInt = v99.toInt + v12m.toInt := ad_i e_v101 rfl rfl (by omega) (by omega)
          refine lv_aload_n hx hb dX12_isWayHere_102 rfl (lv_at hl 3 rfl) ?_
          refine t_getk (ci := 12) (C := RX12) (T := TX12) (N := 38) hx hb hts iX12 hown hw rfl 10 (by decide) (hts _ tw_1135) (fun _ h9 => h9) dX12_isWayHere_103 f_a0_X12_10 ?_
          refine t_iast hx hb hw k_v7 rfl rfl (by omega) (show v101.toInt < 285 by omega) (by rw [fr_59 (by omega) (by omega)]; exact i32_lo _) (by rw [fr_59 (by omega) (by omega)]; exact i32_hi _) dX12_isWayHere_106 (fun w_6 H locs hw u => ?_)
          have hM := hM.up3 u k_v7 (by decide)
          have f_a0_X12_1 := u.1 _ _ _ _ f_a0_X12_1
          have f_a0_X12_7 := u.1 _ _ _ _ f_a0_X12_7
          have f_v7_M_read_0 := u.2.2.1 _ _ _ f_v7_M_read_0 (Or.inr (by rw [show (0 : Int32).toInt.toNat = 0 by decide]; omega))
          have f_v7_M_read_3 := u.2.2.1 _ _ _ f_v7_M_read_3 (Or.inr (by rw [show (3 : Int32).toInt.toNat = 3 by decide]; omega))
          have f_v7_M_read_4 := u.2.2.1 _ _ _ f_v7_M_read_4 (Or.inr (by rw [show (4 : Int32).toInt.toNat = 4 by decide]; omega))
          have f_v7_M_read_5 := u.2.2.1 _ _ _ f_v7_M_read_5 (Or.inr (by rw [show (5 : Int32).toInt.toNat = 5 by decide]; omega))
          have f_a0_X12_8 := u.1 _ _ _ _ f_a0_X12_8
          have f_a0_X12_10 := u.1 _ _ _ _ f_a0_X12_10
          refine lv_iconst (v := 1) hx hb dX12_isWayHere_107 (by decide) ?_
          rw [hQ]
          refine W.widen (k := 0) (n := 0) (Nat.le_refl _) (Nat.le_refl _) ?_
          exact W.zret (v := 1) hx hb hr rfl (fun t ht hW => ⟨⟨1, w_6, rfl, ⟨(by decide), (by decide), hw.2.2.2.2, hM⟩, by rw [ht]; exact hw.2.1, va_K.moved hW.alike hw.1, hw.2.2.1⟩, hw.2.2.2.1.F ht⟩) hw.2.2.2.1.2.2 dX12_isWayHere_108
        · simp only [fa_lt, fa_le, fa_eq, li_0] at c_84
          refine lv_iconst (v := 0) hx hb dX12_isWayHere_87 (by decide) ?_
          rw [hQ]
          refine W.widen (k := 0) (n := 0) (Nat.le_refl _) (Nat.le_refl _) ?_
          exact W.zret (v := 0) hx hb hr rfl (fun t ht hW => ⟨⟨0, w_5, rfl, ⟨(by decide), (by decide), hw.2.2.2.2, hM⟩, by rw [ht]; exact hw.2.1, va_K.moved hW.alike hw.1, hw.2.2.1⟩, hw.2.2.2.1.F ht⟩) hw.2.2.2.1.2.2 dX12_isWayHere_88
      · simp only [fa_lt, fa_le, fa_eq] at c_58
        refine lv_aload_n hx hb dX12_isWayHere_61 rfl (lv_at hl 3 rfl) ?_
        refine lv_iconst (v := 1) hx hb dX12_isWayHere_62 (by decide) ?_
        refine lv_iload_n hx hb dX12_isWayHere_63 rfl (lv_at hl 1 rfl) ?_
        refine t_calli (va_runV (As := [.int 1, .int v26n]) (rest := []) ⟨hx, hb, hml, hown, hts⟩ (t_X12_fails l dC dI tys κ B w_4 hw.2.2.2.2 a0 k_a0 1 (by decide) (by decide) v26n (by omega) (by omega) H.size) (cwV 2 hts (gUV tw_1288 tw_1290 ts_3_7 tw_13 tw_1291) rfl rfl rfl (by decide +kernel) ⟨(Nat.le_of_ble_eq_true rfl), (Nat.le_of_ble_eq_true rfl)⟩) ⟨cPre.blind, t_recv hw (ci := 12) k_a0 rfl rfl, cPre.use hw.2.1 hw.1 hw.2.2.1 hE⟩ rfl rfl hl.1 rfl (lv_room (Nat.le_of_ble_eq_true rfl)) dX12_isWayHere_64 ⟨(Nat.le_of_ble_eq_true rfl), (Nat.le_of_ble_eq_true rfl)⟩) hw hA (fun _ _ h => h.2.2.1) (fun v64 w_7 H locs hp hw => ?_)
        obtain ⟨l_v64, h_v64, _, hm⟩ := hp
        have hM := hM.trans hm (by decide) (by decide)
        have f_a0_X12_1 := hm.1 _ _ _ _ f_a0_X12_1 (by decide)
        have f_a0_X12_7 := hm.1 _ _ _ _ f_a0_X12_7 (by decide)
        have f_v7_M_read_5 := hm.elt k_v7 (by decide) f_v7_M_read_5
        have f_a0_X12_8 := hm.1 _ _ _ _ f_a0_X12_8 (by decide)
        have f_a0_X12_10 := hm.1 _ _ _ _ f_a0_X12_10 (by decide)
        rw [hQ]
        refine W.widen (k := 0) (n := 0) (Nat.le_refl _) (Nat.le_refl _) ?_
        exact W.zret (v := v64) hx hb hr (nb_i (by omega) (by omega)) (fun t ht hW => ⟨⟨v64, w_7, rfl, ⟨(by omega), (by omega), hw.2.2.2.2, hM⟩, by rw [ht]; exact hw.2.1, va_K.moved hW.alike hw.1, hw.2.2.1⟩, hw.2.2.2.1.F ht⟩) hw.2.2.2.1.2.2 dX12_isWayHere_67
    · simp only [fa_lt, fa_le, fa_eq, li_0] at c_46
      refine lv_iconst (v := 0) hx hb dX12_isWayHere_49 (by decide) ?_
      rw [hQ]
      refine W.widen (k := 0) (n := 0) (Nat.le_refl _) (Nat.le_refl _) ?_
      exact W.zret (v := 0) hx hb hr rfl (fun t ht hW => ⟨⟨0, w_4, rfl, ⟨(by decide), (by decide), hw.2.2.2.2, hM⟩, by rw [ht]; exact hw.2.1, va_K.moved hW.alike hw.1, hw.2.2.1⟩, hw.2.2.2.1.F ht⟩) hw.2.2.2.1.2.2 dX12_isWayHere_50
  · simp only [fa_lt, fa_le, fa_eq, li_0] at c_15
    refine lv_iconst (v := 0) hx hb dX12_isWayHere_18 (by decide) ?_
    rw [hQ]
    refine W.widen (k := 0) (n := 0) (Nat.le_refl _) (Nat.le_refl _) ?_
    exact W.zret (v := 0) hx hb hr rfl (fun t ht hW => ⟨⟨0, w_2, rfl, ⟨(by decide), (by decide), hw.2.2.2.2, hM⟩, by rw [ht]; exact hw.2.1, va_K.moved hW.alike hw.1, hw.2.2.1⟩, hw.2.2.2.1.F ht⟩) hw.2.2.2.1.2.2 dX12_isWayHere_19
set_option maxHeartbeats 4000000 in
set_option maxRecDepth 100000 in
theorem t_X12_isWord (l : Launch) (dC : Nat → ClassId) (dI : Nat → Nat → Nat) (tys : List (ClassId × FieldType)) (κ : tK) (B : Nat) (ws : va_W) (hT : Ty κ tys B ws) (a0 : Nat) (k_a0 : κ a0 = some 12) (a1 : Int64) (f0 : Int32) (l_f0 : 0 ≤ f0.toInt) (h_f0 : f0.toInt ≤ 401) (f_a0_X12_8 : fld ws a0 12 8 (.int f0)) (f1 : Int32) (l_f1 : 0 ≤ f1.toInt) (h_f1 : f1.toInt ≤ 400) (f_a0_X12_1 : fld ws a0 12 1 (.int f1)) (sz : Nat) : Met l yX12_isWord (ws_u yX12_isWord cX12_isWord 6 (some .boolean)) ({ frames := 1, cells := 0, slots := 0, locals := 21 }) (va_Pc [.ref a0, .long a1] (cPre (dC, dI) tys ws sz)) (va_Qi (fun (r : Int32) (w : va_W) => 0 ≤ r.toInt ∧ r.toInt ≤ 1 ∧ Ty κ tys B w ∧ Sm [(12, 8)] [] κ ws w ∧ (∃ (xn : Int32), 0 ≤ xn.toInt ∧ xn.toInt ≤ 401 ∧ fld w a0 12 8 (.int xn) ∧ f0.toInt ≤ xn.toInt ∧ (xn.toInt = f0.toInt ∨ xn.toInt ≤ f1.toInt))) (fun w t => cPost (dC, dI) tys w (va_A ws sz) t) (va_A ws sz)) 0 0 (va_A ws sz) := by
  refine Met.ofW (cc := cX12_isWord) (maxL := 6) (ret := (some .boolean)) (by decide) rfl ?_
  intro p e s m args below meth c s₁ B0 hml hv
  obtain ⟨rfl, hsz, hP, hK, hD0, hE⟩ := hv
  have hx := B0.exec
  have hb := B0.bytes
  have hr := B0.returns
  have hts0 := atoms_spec (ws := ws_u yX12_isWord cX12_isWord 6 (some .boolean)) B0.pre
  have hts : ∀ w ∈ gT, w.before _ s = true := fun w h => hts0 w (List.mem_cons_of_mem _ h)
  have hown : s.vm.findClass RX12 = some m.cls := findClass_of_methodNamed B0.named
  have hlocks := B0.notSynchronized
  subst hsz
  have hD := hD0.self (sz := s.heap.size)
  generalize hAe : va_A ws s.heap.size = A at hD ⊢
  have hA : ∀ q : Nat, s.heap.size ≤ q → A q := fun q h => by rw [← hAe]; exact Or.inr h
  have hw : tW (dC, dI) tys κ B A s ws s.heap [] := ⟨hK, hP, hD, va_S.rf, hT⟩
  have hM : Sm [(12, 8)] [] κ ws ws := Sm.rf
  clear hP hK hD hD0 hts0
  have hl := lv_entry ([.ref a0, .long a1]) (n := 6) (Nat.le_of_ble_eq_true rfl)
  rw [lg_entry_eq]
  generalize (lg_sl ([.ref a0, .long a1]) ++ List.replicate (6 - (lg_sl ([.ref a0, .long a1])).length) Slot.unset).toArray = ls at hl ⊢
  have hl : lv_has ls 6 [(0, .ref a0), (1, .long a1)] := hl
  refine t_start (fun QQ hQ => ?_)
  refine lv_aload_n hx hb dX12_isWord_0 rfl (lv_at hl 0 rfl) ?_
  refine t_calli (va_runV (As := []) (rest := []) ⟨hx, hb, hml, hown, hts⟩ (t_X12_see l dC dI tys κ B ws hw.2.2.2.2 a0 k_a0 f0 (by omega) (by omega) f_a0_X12_8 f1 (by omega) (by omega) f_a0_X12_1 s.heap.size) (cwV 0 hts (gUV tw_1264 tw_1266 ts_3_3 tw_13 tw_1267) rfl rfl rfl (by decide +kernel) ⟨(Nat.le_of_ble_eq_true rfl), (Nat.le_of_ble_eq_true rfl)⟩) ⟨cPre.blind, t_recv hw (ci := 12) k_a0 rfl rfl, cPre.use hw.2.1 hw.1 hw.2.2.1 hE⟩ rfl rfl hl.1 rfl (lv_room (Nat.le_of_ble_eq_true rfl)) dX12_isWord_1 ⟨(Nat.le_of_ble_eq_true rfl), (Nat.le_of_ble_eq_true rfl)⟩) hw hA (fun _ _ h => h.2.2.1) (fun v1 w_1 H locs hp hw => ?_)
  obtain ⟨l_v1, h_v1, _, hm, ⟨v1n, l_v1n, h_v1n, f_a0_X12_8, y_v1⟩⟩ := hp
  have hM := hM.trans hm (by decide) (by decide)
  have f_a0_X12_1 := hm.1 _ _ _ _ f_a0_X12_1 (by decide)
  refine lv_pop hx hb dX12_isWord_4 rfl ?_
  refine lv_lconst (v := 0) hx hb dX12_isWord_5 (by decide) ?_
  obtain ⟨v5, e_v5⟩ : ∃ y : Int64, y = 0 := ⟨_, rfl⟩
  refine W.eq (g2 := F0 m 6 ls [.long v5]) (by rw [e_v5]) ?_
  have t_v5 : v5.toInt = 0 := by rw [e_v5]; decide
  refine lv_lstore_n (lv' := [(3, .long v5), (0, .ref a0), (1, .long a1)]) hx hb dX12_isWord_6 rfl hl (by decide) rfl (fun ls hl => ?_)
  refine lv_iconst (v := 0) hx hb dX12_isWord_7 (by decide) ?_
  refine lv_istore (lv' := [(5, .int 0), (3, .long v5), (0, .ref a0), (1, .long a1)]) hx hb dX12_isWord_8 hl (by decide) rfl (fun ls hl => ?_)
  have J10 : ∀ (n : Nat) (H : Heap) (locs : List Loc) (ls : Array Slot), (∃ (w10 : va_W) (p10_l3 : Int64) (p10_l5 : Int32), tW (dC, dI) tys κ B A s w10 H locs ∧ Sm [(12, 8)] [] κ ws w10 ∧ 0 ≤ p10_l5.toInt ∧ p10_l5.toInt ≤ 401 ∧ fld w10 a0 12 1 (.int f1) ∧ fld w10 a0 12 8 (.int v1n) ∧ v1n.toInt + p10_l5.toInt ≤ 401 ∧ lv_has ls 6 [(0, .ref a0), (1, .long a1), (3, .long p10_l3), (5, .int p10_l5)] ∧ (401 - p10_l5.toInt).toNat = n) → W p l e (headSpec (ws_u yX12_isWord cX12_isWord 6 (some .boolean)) ({ frames := 1, cells := 0, slots := 0, locals := 21 })).room s m ([.ref a0, .long a1] : List Value).toArray below meth c H locs 0 0 QQ (F0 m 10 ls []) := by
    refine loopT _ ?_
    intro n_10 H locs ls hI ih_10
    obtain ⟨w10, p10_l3, p10_l5, hw, hM, l_p10_l5, h_p10_l5, f_a0_X12_1, f_a0_X12_8, li_10_0, hl, hn_10⟩ := hI
    refine lv_aload_n hx hb dX12_isWord_10 rfl (lv_at hl 0 rfl) ?_
    refine lv_aload_n hx hb dX12_isWord_11 rfl (lv_at hl 0 rfl) ?_
    refine t_getk (ci := 12) (C := RX12) (T := TX12) (N := 38) hx hb hts iX12 hown hw rfl 8 (by decide) (hts _ tw_1133) (fun _ h9 => h9) dX12_isWord_12 f_a0_X12_8 ?_
    refine lv_iload hx hb dX12_isWord_15 (lv_at hl 3 rfl) ?_
    refine lv_iadd hx hb dX12_isWord_17 ?_
    refine lv_topi (fun v17 e_v17 => ?_)
    have e_v17 : v17.toInt = v1n.toInt + p10_l5.toInt := ad_i e_v17 rfl rfl (by omega) (by omega)
    refine t_calli (va_runV (As := [.int v17]) (rest := []) ⟨hx, hb, hml, hown, hts⟩ (t_X12_isLetter l dC dI tys κ B w10 hw.2.2.2.2 a0 k_a0 v17 (by omega) (by omega) f1 (by omega) (by omega) f_a0_X12_1 H.size) (cwV 1 hts (gUV tw_1277 tw_1279 ts_3_6 tw_13 tw_1280) rfl rfl rfl (by decide +kernel) ⟨(Nat.le_of_ble_eq_true rfl), (Nat.le_of_ble_eq_true rfl)⟩) ⟨cPre.blind, t_recv hw (ci := 12) k_a0 rfl rfl, cPre.use hw.2.1 hw.1 hw.2.2.1 hE⟩ rfl rfl hl.1 rfl (lv_room (Nat.le_of_ble_eq_true rfl)) dX12_isWord_18 ⟨(Nat.le_of_ble_eq_true rfl), (Nat.le_of_ble_eq_true rfl)⟩) hw hA (fun _ _ h => h.2.2.1) (fun v18 w_2 H locs hp hw => ?_)
    obtain ⟨l_v18, h_v18, _, hm, x_v18_0, x_v18_1⟩ := hp
    have hM := hM.trans hm (by decide) (by decide)
    have f_a0_X12_1 := hm.1 _ _ _ _ f_a0_X12_1 (by decide)
    have f_a0_X12_8 := hm.1 _ _ _ _ f_a0_X12_8 (by decide)
    refine lv_if_eq (tgt := 56) hx hb dX12_isWord_21 (by decide) (fun c_21 => ?_) (fun c_21 => ?_)
    · simp only [fa_lt, fa_le, fa_eq, li_0] at c_21
      refine lv_iload hx hb dX12_isWord_56 (lv_at hl 3 rfl) ?_
      refine lv_if_le (tgt := 78) hx hb dX12_isWord_58 (by decide) (fun c_58 => ?_) (fun c_58 => ?_)
      · simp only [fa_lt, fa_le, fa_eq, li_0] at c_58
        refine lv_iconst (v := 0) hx hb dX12_isWord_78 (by decide) ?_
        rw [hQ]
        refine W.widen (k := 0) (n := 0) (Nat.le_refl _) (Nat.le_refl _) ?_
        exact W.zret (v := 0) hx hb hr rfl (fun t ht hW => ⟨⟨0, w_2, rfl, ⟨(by decide), (by decide), hw.2.2.2.2, hM, ⟨v1n, (by omega), (by omega), f_a0_X12_8, (by have := li_0; omega)⟩⟩, by rw [ht]; exact hw.2.1, va_K.moved hW.alike hw.1, hw.2.2.1⟩, hw.2.2.2.1.F ht⟩) hw.2.2.2.1.2.2 dX12_isWord_79
      · simp only [fa_lt, fa_le, fa_eq, li_0] at c_58
        refine lv_iload hx hb dX12_isWord_61 (lv_at hl 3 rfl) ?_
        refine lv_bipush (v := 8) hx hb dX12_isWord_63 (by decide) ?_
        refine lv_icmp_ge (tgt := 78) hx hb dX12_isWord_65 (by decide) (fun c_65 => ?_) (fun c_65 => ?_)
        · simp only [fa_lt, fa_le, fa_eq, li_8] at c_65
          refine lv_iconst (v := 0) hx hb dX12_isWord_78 (by decide) ?_
          rw [hQ]
          refine W.widen (k := 0) (n := 0) (Nat.le_refl _) (Nat.le_refl _) ?_
          exact W.zret (v := 0) hx hb hr rfl (fun t ht hW => ⟨⟨0, w_2, rfl, ⟨(by decide), (by decide), hw.2.2.2.2, hM, ⟨v1n, (by omega), (by omega), f_a0_X12_8, (by have := li_0; omega)⟩⟩, by rw [ht]; exact hw.2.1, va_K.moved hW.alike hw.1, hw.2.2.1⟩, hw.2.2.2.1.F ht⟩) hw.2.2.2.1.2.2 dX12_isWord_79
        · simp only [fa_lt, fa_le, fa_eq, li_8] at c_65
          refine lv_lload_n hx hb dX12_isWord_68 rfl (lv_at hl 2 rfl) ?_
          refine lv_lload_n hx hb dX12_isWord_69 rfl (lv_at hl 1 rfl) ?_
          refine W.lcmp hx hb dX12_isWord_70 ?_
          refine lv_topi (fun v70 e_v70 => ?_)
          have l_v70 := i32_lo v70
          have h_v70 := i32_hi v70
          have g_v70 := lgc e_v70
          refine lv_if_ne (tgt := 78) hx hb dX12_isWord_71 (by decide) (fun c_71 => ?_) (fun c_71 => ?_)
          · simp only [fa_lt, fa_le, fa_eq, li_0] at c_71
            refine lv_iconst (v := 0) hx hb dX12_isWord_78 (by decide) ?_
            rw [hQ]
            refine W.widen (k := 0) (n := 0) (Nat.le_refl _) (Nat.le_refl _) ?_
            exact W.zret (v := 0) hx hb hr rfl (fun t ht hW => ⟨⟨0, w_2, rfl, ⟨(by decide), (by decide), hw.2.2.2.2, hM, ⟨v1n, (by omega), (by omega), f_a0_X12_8, (by have := li_0; omega)⟩⟩, by rw [ht]; exact hw.2.1, va_K.moved hW.alike hw.1, hw.2.2.1⟩, hw.2.2.2.1.F ht⟩) hw.2.2.2.1.2.2 dX12_isWord_79
          · simp only [fa_lt, fa_le, fa_eq, li_0] at c_71
            refine lv_iconst (v := 1) hx hb dX12_isWord_74 (by decide) ?_
            refine lv_goto (tgt := 79) hx hb dX12_isWord_75 (by decide) ?_
            rw [hQ]
            refine W.widen (k := 0) (n := 0) (Nat.le_refl _) (Nat.le_refl _) ?_
            exact W.zret (v := 1) hx hb hr rfl (fun t ht hW => ⟨⟨1, w_2, rfl, ⟨(by decide), (by decide), hw.2.2.2.2, hM, ⟨v1n, (by omega), (by omega), f_a0_X12_8, (by have := li_1; omega)⟩⟩, by rw [ht]; exact hw.2.1, va_K.moved hW.alike hw.1, hw.2.2.1⟩, hw.2.2.2.1.F ht⟩) hw.2.2.2.1.2.2 dX12_isWord_79
    · simp only [fa_lt, fa_le, fa_eq, li_0] at c_21
      refine lv_iload hx hb dX12_isWord_24 (lv_at hl 3 rfl) ?_
      refine lv_bipush (v := 8) hx hb dX12_isWord_26 (by decide) ?_
      have J50 : ∀ (H : Heap) (locs : List Loc) (ls : Array Slot) (w50 : va_W) (p50_l3 : Int64), tW (dC, dI) tys κ B A s w50 H locs → Sm [(12, 8)] [] κ ws w50 → fld w50 a0 12 1 (.int f1) → fld w50 a0 12 8 (.int v1n) → lv_has ls 6 [(0, .ref a0), (1, .long a1), (3, .long p50_l3), (5, .int p10_l5)] → W p l e (headSpec (ws_u yX12_isWord cX12_isWord 6 (some .boolean)) ({ frames := 1, cells := 0, slots := 0, locals := 21 })).room s m ([.ref a0, .long a1] : List Value).toArray below meth c H locs 0 0 QQ (F0 m 50 ls []) := by
        intro H locs ls w50 p50_l3 hw hM f_a0_X12_1 f_a0_X12_8 hl
        obtain ⟨v50, e_v50⟩ : ∃ y : Int32, y = p10_l5 + 1 := ⟨_, rfl⟩
        refine lv_iinc (v := v50) (lv' := [(5, .int v50), (0, .ref a0), (1, .long a1), (3, .long p50_l3)]) hx hb dX12_isWord_50 hl (k := 3) rfl e_v50.symm (by decide) rfl (fun ls hl => ?_)
        have e_v50 : v50.toInt = p10_l5.toInt + 1 := ad_i e_v50 rfl li_1 (by omega) (by omega)
        refine lv_goto (tgt := 10) hx hb dX12_isWord_53 (by decide) ?_
        exact ih_10 _ _ _ _ (by omega) ⟨w50, p50_l3, v50, hw, hM, (by omega), (by omega), f_a0_X12_1, f_a0_X12_8, (by omega), (lv_sub hl [1, 2, 3, 0] rfl), rfl⟩
      refine lv_icmp_ge (tgt := 50) hx hb dX12_isWord_28 (by decide) (fun c_28 => ?_) (fun c_28 => ?_)
      · simp only [fa_lt, fa_le, fa_eq, li_8] at c_28
        exact J50 _ _ _ w_2 p10_l3 hw hM f_a0_X12_1 f_a0_X12_8 (lv_sub hl [0, 1, 2, 3] rfl)
      · simp only [fa_lt, fa_le, fa_eq, li_8] at c_28
        refine lv_lload_n hx hb dX12_isWord_31 rfl (lv_at hl 2 rfl) ?_
        refine lv_bipush (v := 8) hx hb dX12_isWord_32 (by decide) ?_
        refine lv_lshl hx hb dX12_isWord_34 rfl ?_
        refine lv_topl (fun v34 e_v34 => ?_)
        refine lv_aload_n hx hb dX12_isWord_35 rfl (lv_at hl 0 rfl) ?_
        refine t_getr (k1 := 54) (ci := 12) (C := RX12) (T := TX12) (N := 38) hx hb hts iX12 hown hw k_a0 rfl rfl rfl 0 (by decide) (hts _ tw_1125) (fun _ h9 => h9) dX12_isWord_36 rfl (fun v36 k_v36 f_a0_X12_0 => ?_)
        refine lv_aload_n hx hb dX12_isWord_39 rfl (lv_at hl 0 rfl) ?_
        refine t_getk (ci := 12) (C := RX12) (T := TX12) (N := 38) hx hb hts iX12 hown hw rfl 8 (by decide) (hts _ tw_1133) (fun _ h9 => h9) dX12_isWord_40 f_a0_X12_8 ?_
        refine lv_iload hx hb dX12_isWord_43 (lv_at hl 3 rfl) ?_
        refine lv_iadd hx hb dX12_isWord_45 ?_
        refine lv_topi (fun v45 e_v45 => ?_)
        have e_v45 : v45.toInt = v1n.toInt + p10_l5.toInt := ad_i e_v45 rfl rfl (by omega) (by omega)
        refine t_bald hx hb hw k_v36 rfl rfl (by omega) (show v45.toInt < 400 by omega) dX12_isWord_46 (fun v46 r_v46 s_v46 q_v46 => ?_)
        have l_v46 := i32_lo v46
        have h_v46 := i32_hi v46
        refine lv_i2l hx hb dX12_isWord_47 rfl ?_
        refine lv_topl (fun v47 e_v47 => ?_)
        have t_v47 : v47.toInt = v46.toInt := by rw [e_v47, Int32.toInt_toInt64]
        refine lv_lor hx hb dX12_isWord_48 ?_
        refine lv_topl (fun v48 e_v48 => ?_)
        refine lv_lstore_n (lv' := [(3, .long v48), (0, .ref a0), (1, .long a1), (5, .int p10_l5)]) hx hb dX12_isWord_49 rfl hl (by decide) rfl (fun ls hl => ?_)
        exact J50 _ _ _ w_2 v48 hw hM f_a0_X12_1 f_a0_X12_8 (lv_sub hl [1, 2, 0, 3] rfl)
  exact J10 _ _ _ _ ⟨w_1, v5, 0, hw, hM, (by decide), (by decide), f_a0_X12_1, f_a0_X12_8, (by have := li_0; omega), (lv_sub hl [2, 3, 1, 0] rfl), rfl⟩
set_option maxHeartbeats 4000000 in
set_option maxRecDepth 100000 in
theorem t_X12_choirLineHere (l : Launch) (dC : Nat → ClassId) (dI : Nat → Nat → Nat) (tys : List (ClassId × FieldType)) (κ : tK) (B : Nat) (ws : va_W) (hT : Ty κ tys B ws) (a0 : Nat) (k_a0 : κ a0 = some 12) (a1 : Int32) (l_a1 : 0 ≤ a1.toInt) (h_a1 : a1.toInt ≤ 401) (sz : Nat) : Met l yX12_choirLineHere (ws_u yX12_choirLineHere cX12_choirLineHere 2 (some .boolean)) ({ frames := 4, cells := 0, slots := 0, locals := 95 }) (va_Pc [.ref a0, .int a1] (cPre (dC, dI) tys ws sz)) (va_Qi (fun (r : Int32) (w : va_W) => 0 ≤ r.toInt ∧ r.toInt ≤ 1 ∧ Ty κ tys B w ∧ Sm [(12, 8), (12, 9), (12, 10)] [59] κ ws w) (fun w t => cPost (dC, dI) tys w (va_A ws sz) t) (va_A ws sz)) 0 0 (va_A ws sz) := by
  refine Met.ofW (cc := cX12_choirLineHere) (maxL := 2) (ret := (some .boolean)) (by decide) rfl ?_
  intro p e s m args below meth c s₁ B0 hml hv
  obtain ⟨rfl, hsz, hP, hK, hD0, hE⟩ := hv
  have hx := B0.exec
  have hb := B0.bytes
  have hr := B0.returns
  have hts0 := atoms_spec (ws := ws_u yX12_choirLineHere cX12_choirLineHere 2 (some .boolean)) B0.pre
  have hts : ∀ w ∈ gT, w.before _ s = true := fun w h => hts0 w (List.mem_cons_of_mem _ h)
  have hown : s.vm.findClass RX12 = some m.cls := findClass_of_methodNamed B0.named
  have hlocks := B0.notSynchronized
  subst hsz
  have hD := hD0.self (sz := s.heap.size)
  generalize hAe : va_A ws s.heap.size = A at hD ⊢
  have hA : ∀ q : Nat, s.heap.size ≤ q → A q := fun q h => by rw [← hAe]; exact Or.inr h
  have hw : tW (dC, dI) tys κ B A s ws s.heap [] := ⟨hK, hP, hD, va_S.rf, hT⟩
  have hM : Sm [(12, 8), (12, 9), (12, 10)] [59] κ ws ws := Sm.rf
  clear hP hK hD hD0 hts0
  have hl := lv_entry ([.ref a0, .int a1]) (n := 2) (Nat.le_of_ble_eq_true rfl)
  rw [lg_entry_eq]
  generalize (lg_sl ([.ref a0, .int a1]) ++ List.replicate (2 - (lg_sl ([.ref a0, .int a1])).length) Slot.unset).toArray = ls at hl ⊢
  have hl : lv_has ls 2 [(0, .ref a0), (1, .int a1)] := hl
  refine t_start (fun QQ hQ => ?_)
  refine lv_aload_n hx hb dX12_choirLineHere_0 rfl (lv_at hl 0 rfl) ?_
  refine lv_ldc2 (v := 426953894258) hx hb hown (hts _ tw_1272) dX12_choirLineHere_1 ?_
  refine lv_topl (fun v1 e_v1 => ?_)
  have t_v1 : v1.toInt = 426953894258 := by rw [e_v1]; decide
  obtain ⟨u_v4q0, q_v4q0, f_a0_X12_8⟩ := t_peek (k := 8) hw.2.2.2.2 k_a0 rfl (by decide)
  obtain ⟨v4q0, rfl, l_v4q0, h_v4q0⟩ := q_v4q0.geti (lo := 0) (hi := 401) rfl
  obtain ⟨u_v4q1, q_v4q1, f_a0_X12_1⟩ := t_peek (k := 1) hw.2.2.2.2 k_a0 rfl (by decide)
  obtain ⟨v4q1, rfl, l_v4q1, h_v4q1⟩ := q_v4q1.geti (lo := 0) (hi := 400) rfl
  refine t_calli (va_runV (As := [.long v1]) (rest := []) ⟨hx, hb, hml, hown, hts⟩ (t_X12_isWord l dC dI tys κ B ws hw.2.2.2.2 a0 k_a0 v1 v4q0 (by omega) (by omega) f_a0_X12_8 v4q1 (by omega) (by omega) f_a0_X12_1 s.heap.size) (cwV 1 hts (gUV tw_1273 tw_1275 ts_3_5 tw_13 tw_1276) rfl rfl rfl (by decide +kernel) ⟨(Nat.le_of_ble_eq_true rfl), (Nat.le_of_ble_eq_true rfl)⟩) ⟨cPre.blind, t_recv hw (ci := 12) k_a0 rfl rfl, cPre.use hw.2.1 hw.1 hw.2.2.1 hE⟩ rfl rfl hl.1 rfl (lv_room (Nat.le_of_ble_eq_true rfl)) dX12_choirLineHere_4 ⟨(Nat.le_of_ble_eq_true rfl), (Nat.le_of_ble_eq_true rfl)⟩) hw hA (fun _ _ h => h.2.2.1) (fun v4 w_1 H locs hp hw => ?_)
  obtain ⟨l_v4, h_v4, _, hm, ⟨v4n, l_v4n, h_v4n, f_a0_X12_8, y_v4⟩⟩ := hp
  have hM := hM.trans hm (by decide) (by decide)
  have f_a0_X12_1 := hm.1 _ _ _ _ f_a0_X12_1 (by decide)
  refine lv_if_eq (tgt := 16) hx hb dX12_choirLineHere_7 (by decide) (fun c_7 => ?_) (fun c_7 => ?_)
  · simp only [fa_lt, fa_le, fa_eq, li_0] at c_7
    refine lv_aload_n hx hb dX12_choirLineHere_16 rfl (lv_at hl 0 rfl) ?_
    refine t_getr (k1 := 59) (ci := 12) (C := RX12) (T := TX12) (N := 38) hx hb hts iX12 hown hw k_a0 rfl rfl rfl 7 (by decide) (hts _ tw_1132) (fun _ h9 => h9) dX12_choirLineHere_17 rfl (fun v17 k_v17 f_a0_X12_7 => ?_)
    refine lv_iconst (v := 0) hx hb dX12_choirLineHere_20 (by decide) ?_
    refine t_iald hx hb hw k_v17 rfl rfl (by decide) (by decide) dX12_choirLineHere_21 (fun v21 r_v21 s_v21 f_v17_M_read_0 => ?_)
    have l_v21 : 0 ≤ v21.toInt := by rw [iv_59_0] at r_v21; exact r_v21
    have h_v21 : v21.toInt ≤ 1 := by rw [iv_59_0] at s_v21; exact s_v21
    refine lv_if_ne (tgt := 32) hx hb dX12_choirLineHere_22 (by decide) (fun c_22 => ?_) (fun c_22 => ?_)
    · simp only [fa_lt, fa_le, fa_eq, li_0] at c_22
      refine lv_aload_n hx hb dX12_choirLineHere_32 rfl (lv_at hl 0 rfl) ?_
      refine lv_ldc2 (v := 6451065) hx hb hown (hts _ tw_1281) dX12_choirLineHere_33 ?_
      refine lv_topl (fun v33 e_v33 => ?_)
      have t_v33 : v33.toInt = 6451065 := by rw [e_v33]; decide
      refine t_calli (va_runV (As := [.long v33]) (rest := []) ⟨hx, hb, hml, hown, hts⟩ (t_X12_isWord l dC dI tys κ B w_1 hw.2.2.2.2 a0 k_a0 v33 v4n (by omega) (by omega) f_a0_X12_8 v4q1 (by omega) (by omega) f_a0_X12_1 H.size) (cwV 1 hts (gUV tw_1273 tw_1275 ts_3_5 tw_13 tw_1276) rfl rfl rfl (by decide +kernel) ⟨(Nat.le_of_ble_eq_true rfl), (Nat.le_of_ble_eq_true rfl)⟩) ⟨cPre.blind, t_recv hw (ci := 12) k_a0 rfl rfl, cPre.use hw.2.1 hw.1 hw.2.2.1 hE⟩ rfl rfl hl.1 rfl (lv_room (Nat.le_of_ble_eq_true rfl)) dX12_choirLineHere_36 ⟨(Nat.le_of_ble_eq_true rfl), (Nat.le_of_ble_eq_true rfl)⟩) hw hA (fun _ _ h => h.2.2.1) (fun v36 w_2 H locs hp hw => ?_)
      obtain ⟨l_v36, h_v36, _, hm, ⟨v36n, l_v36n, h_v36n, f_a0_X12_8, y_v36⟩⟩ := hp
      have hM := hM.trans hm (by decide) (by decide)
      have f_a0_X12_1 := hm.1 _ _ _ _ f_a0_X12_1 (by decide)
      have f_a0_X12_7 := hm.1 _ _ _ _ f_a0_X12_7 (by decide)
      have f_v17_M_read_0 := hm.elt k_v17 (by decide) f_v17_M_read_0
      refine lv_if_eq (tgt := 48) hx hb dX12_choirLineHere_39 (by decide) (fun c_39 => ?_) (fun c_39 => ?_)
      · simp only [fa_lt, fa_le, fa_eq, li_0] at c_39
        refine lv_aload_n hx hb dX12_choirLineHere_48 rfl (lv_at hl 0 rfl) ?_
        refine lv_ldc2 (v := 465625113971) hx hb hown (hts _ tw_1282) dX12_choirLineHere_49 ?_
        refine lv_topl (fun v49 e_v49 => ?_)
        have t_v49 : v49.toInt = 465625113971 := by rw [e_v49]; decide
        refine t_calli (va_runV (As := [.long v49]) (rest := []) ⟨hx, hb, hml, hown, hts⟩ (t_X12_isWord l dC dI tys κ B w_2 hw.2.2.2.2 a0 k_a0 v49 v36n (by omega) (by omega) f_a0_X12_8 v4q1 (by omega) (by omega) f_a0_X12_1 H.size) (cwV 1 hts (gUV tw_1273 tw_1275 ts_3_5 tw_13 tw_1276) rfl rfl rfl (by decide +kernel) ⟨(Nat.le_of_ble_eq_true rfl), (Nat.le_of_ble_eq_true rfl)⟩) ⟨cPre.blind, t_recv hw (ci := 12) k_a0 rfl rfl, cPre.use hw.2.1 hw.1 hw.2.2.1 hE⟩ rfl rfl hl.1 rfl (lv_room (Nat.le_of_ble_eq_true rfl)) dX12_choirLineHere_52 ⟨(Nat.le_of_ble_eq_true rfl), (Nat.le_of_ble_eq_true rfl)⟩) hw hA (fun _ _ h => h.2.2.1) (fun v52 w_3 H locs hp hw => ?_)
        obtain ⟨l_v52, h_v52, _, hm, ⟨v52n, l_v52n, h_v52n, f_a0_X12_8, y_v52⟩⟩ := hp
        have hM := hM.trans hm (by decide) (by decide)
        have f_a0_X12_1 := hm.1 _ _ _ _ f_a0_X12_1 (by decide)
        have f_a0_X12_7 := hm.1 _ _ _ _ f_a0_X12_7 (by decide)
        have f_v17_M_read_0 := hm.elt k_v17 (by decide) f_v17_M_read_0
        refine lv_if_eq (tgt := 63) hx hb dX12_choirLineHere_55 (by decide) (fun c_55 => ?_) (fun c_55 => ?_)
        · simp only [fa_lt, fa_le, fa_eq, li_0] at c_55
          refine lv_aload_n hx hb dX12_choirLineHere_63 rfl (lv_at hl 0 rfl) ?_
          refine lv_ldc2 (v := 426836389742) hx hb hown (hts _ tw_1283) dX12_choirLineHere_64 ?_
          refine lv_topl (fun v64 e_v64 => ?_)
          have t_v64 : v64.toInt = 426836389742 := by rw [e_v64]; decide
          refine t_calli (va_runV (As := [.long v64]) (rest := []) ⟨hx, hb, hml, hown, hts⟩ (t_X12_isWord l dC dI tys κ B w_3 hw.2.2.2.2 a0 k_a0 v64 v52n (by omega) (by omega) f_a0_X12_8 v4q1 (by omega) (by omega) f_a0_X12_1 H.size) (cwV 1 hts (gUV tw_1273 tw_1275 ts_3_5 tw_13 tw_1276) rfl rfl rfl (by decide +kernel) ⟨(Nat.le_of_ble_eq_true rfl), (Nat.le_of_ble_eq_true rfl)⟩) ⟨cPre.blind, t_recv hw (ci := 12) k_a0 rfl rfl, cPre.use hw.2.1 hw.1 hw.2.2.1 hE⟩ rfl rfl hl.1 rfl (lv_room (Nat.le_of_ble_eq_true rfl)) dX12_choirLineHere_67 ⟨(Nat.le_of_ble_eq_true rfl), (Nat.le_of_ble_eq_true rfl)⟩) hw hA (fun _ _ h => h.2.2.1) (fun v67 w_4 H locs hp hw => ?_)
          obtain ⟨l_v67, h_v67, _, hm, ⟨v67n, l_v67n, h_v67n, f_a0_X12_8, y_v67⟩⟩ := hp
          have hM := hM.trans hm (by decide) (by decide)
          have f_a0_X12_1 := hm.1 _ _ _ _ f_a0_X12_1 (by decide)
          have f_a0_X12_7 := hm.1 _ _ _ _ f_a0_X12_7 (by decide)
          have f_v17_M_read_0 := hm.elt k_v17 (by decide) f_v17_M_read_0
          refine lv_if_eq (tgt := 79) hx hb dX12_choirLineHere_70 (by decide) (fun c_70 => ?_) (fun c_70 => ?_)
          · simp only [fa_lt, fa_le, fa_eq, li_0] at c_70
            refine lv_aload_n hx hb dX12_choirLineHere_79 rfl (lv_at hl 0 rfl) ?_
            refine lv_ldc2 (v := 1717662317) hx hb hown (hts _ tw_1284) dX12_choirLineHere_80 ?_
            refine lv_topl (fun v80 e_v80 => ?_)
            have t_v80 : v80.toInt = 1717662317 := by rw [e_v80]; decide
            refine t_calli (va_runV (As := [.long v80]) (rest := []) ⟨hx, hb, hml, hown, hts⟩ (t_X12_isWord l dC dI tys κ B w_4 hw.2.2.2.2 a0 k_a0 v80 v67n (by omega) (by omega) f_a0_X12_8 v4q1 (by omega) (by omega) f_a0_X12_1 H.size) (cwV 1 hts (gUV tw_1273 tw_1275 ts_3_5 tw_13 tw_1276) rfl rfl rfl (by decide +kernel) ⟨(Nat.le_of_ble_eq_true rfl), (Nat.le_of_ble_eq_true rfl)⟩) ⟨cPre.blind, t_recv hw (ci := 12) k_a0 rfl rfl, cPre.use hw.2.1 hw.1 hw.2.2.1 hE⟩ rfl rfl hl.1 rfl (lv_room (Nat.le_of_ble_eq_true rfl)) dX12_choirLineHere_83 ⟨(Nat.le_of_ble_eq_true rfl), (Nat.le_of_ble_eq_true rfl)⟩) hw hA (fun _ _ h => h.2.2.1) (fun v83 w_5 H locs hp hw => ?_)
            obtain ⟨l_v83, h_v83, _, hm, ⟨v83n, l_v83n, h_v83n, f_a0_X12_8, y_v83⟩⟩ := hp
            have hM := hM.trans hm (by decide) (by decide)
            have f_a0_X12_1 := hm.1 _ _ _ _ f_a0_X12_1 (by decide)
            have f_a0_X12_7 := hm.1 _ _ _ _ f_a0_X12_7 (by decide)
            have f_v17_M_read_0 := hm.elt k_v17 (by decide) f_v17_M_read_0
            refine lv_if_eq (tgt := 95) hx hb dX12_choirLineHere_86 (by decide) (fun c_86 => ?_) (fun c_86 => ?_)
            · simp only [fa_lt, fa_le, fa_eq, li_0] at c_86
              refine lv_aload_n hx hb dX12_choirLineHere_95 rfl (lv_at hl 0 rfl) ?_
              refine lv_ldc2 (v := 7823737) hx hb hown (hts _ tw_1285) dX12_choirLineHere_96 ?_
              refine lv_topl (fun v96 e_v96 => ?_)
              have t_v96 : v96.toInt = 7823737 := by rw [e_v96]; decide
              refine t_calli (va_runV (As := [.long v96]) (rest := []) ⟨hx, hb, hml, hown, hts⟩ (t_X12_isWord l dC dI tys κ B w_5 hw.2.2.2.2 a0 k_a0 v96 v83n (by omega) (by omega) f_a0_X12_8 v4q1 (by omega) (by omega) f_a0_X12_1 H.size) (cwV 1 hts (gUV tw_1273 tw_1275 ts_3_5 tw_13 tw_1276) rfl rfl rfl (by decide +kernel) ⟨(Nat.le_of_ble_eq_true rfl), (Nat.le_of_ble_eq_true rfl)⟩) ⟨cPre.blind, t_recv hw (ci := 12) k_a0 rfl rfl, cPre.use hw.2.1 hw.1 hw.2.2.1 hE⟩ rfl rfl hl.1 rfl (lv_room (Nat.le_of_ble_eq_true rfl)) dX12_choirLineHere_99 ⟨(Nat.le_of_ble_eq_true rfl), (Nat.le_of_ble_eq_true rfl)⟩) hw hA (fun _ _ h => h.2.2.1) (fun v99 w_6 H locs hp hw => ?_)
              obtain ⟨l_v99, h_v99, _, hm, ⟨v99n, l_v99n, h_v99n, f_a0_X12_8, y_v99⟩⟩ := hp
              have hM := hM.trans hm (by decide) (by decide)
              have f_a0_X12_1 := hm.1 _ _ _ _ f_a0_X12_1 (by decide)
              have f_a0_X12_7 := hm.1 _ _ _ _ f_a0_X12_7 (by decide)
              have f_v17_M_read_0 := hm.elt k_v17 (by decide) f_v17_M_read_0
              refine lv_if_eq (tgt := 112) hx hb dX12_choirLineHere_102 (by decide) (fun c_102 => ?_) (fun c_102 => ?_)
              · simp only [fa_lt, fa_le, fa_eq, li_0] at c_102
                refine lv_aload_n hx hb dX12_choirLineHere_112 rfl (lv_at hl 0 rfl) ?_
                refine t_calli (va_runV (As := []) (rest := []) ⟨hx, hb, hml, hown, hts⟩ (t_X12_isSnowHere l dC dI tys κ B w_6 hw.2.2.2.2 a0 k_a0 H.size) (cwV 0 hts (gUV tw_1339 tw_1341 ts_4_3 tw_13 tw_1342) rfl rfl rfl (by decide +kernel) ⟨(Nat.le_of_ble_eq_true rfl), (Nat.le_of_ble_eq_true rfl)⟩) ⟨cPre.blind, t_recv hw (ci := 12) k_a0 rfl rfl, cPre.use hw.2.1 hw.1 hw.2.2.1 hE⟩ rfl rfl hl.1 rfl (lv_room (Nat.le_of_ble_eq_true rfl)) dX12_choirLineHere_113 ⟨(Nat.le_of_ble_eq_true rfl), (Nat.le_of_ble_eq_true rfl)⟩) hw hA (fun _ _ h => h.2.2.1) (fun v113 w_7 H locs hp hw => ?_)
                obtain ⟨l_v113, h_v113, _, hm⟩ := hp
                have hM := hM.trans hm (by decide) (by decide)
                have f_a0_X12_1 := hm.1 _ _ _ _ f_a0_X12_1 (by decide)
                have f_a0_X12_7 := hm.1 _ _ _ _ f_a0_X12_7 (by decide)
                rw [hQ]
                refine W.widen (k := 0) (n := 0) (Nat.le_refl _) (Nat.le_refl _) ?_
                exact W.zret (v := v113) hx hb hr (nb_i (by omega) (by omega)) (fun t ht hW => ⟨⟨v113, w_7, rfl, ⟨(by omega), (by omega), hw.2.2.2.2, hM⟩, by rw [ht]; exact hw.2.1, va_K.moved hW.alike hw.1, hw.2.2.1⟩, hw.2.2.2.1.F ht⟩) hw.2.2.2.1.2.2 dX12_choirLineHere_116
              · simp only [fa_lt, fa_le, fa_eq, li_0] at c_102
                refine lv_aload_n hx hb dX12_choirLineHere_105 rfl (lv_at hl 0 rfl) ?_
                refine t_calli (va_runV (As := []) (rest := []) ⟨hx, hb, hml, hown, hts⟩ (t_X12_isWayHere l dC dI tys κ B w_6 hw.2.2.2.2 a0 k_a0 H.size) (cwV 0 hts (gUV tw_1335 tw_1337 ts_4_2 tw_13 tw_1338) rfl rfl rfl (by decide +kernel) ⟨(Nat.le_of_ble_eq_true rfl), (Nat.le_of_ble_eq_true rfl)⟩) ⟨cPre.blind, t_recv hw (ci := 12) k_a0 rfl rfl, cPre.use hw.2.1 hw.1 hw.2.2.1 hE⟩ rfl rfl hl.1 rfl (lv_room (Nat.le_of_ble_eq_true rfl)) dX12_choirLineHere_106 ⟨(Nat.le_of_ble_eq_true rfl), (Nat.le_of_ble_eq_true rfl)⟩) hw hA (fun _ _ h => h.2.2.1) (fun v106 w_8 H locs hp hw => ?_)
                obtain ⟨l_v106, h_v106, _, hm⟩ := hp
                have hM := hM.trans hm (by decide) (by decide)
                have f_a0_X12_1 := hm.1 _ _ _ _ f_a0_X12_1 (by decide)
                have f_a0_X12_7 := hm.1 _ _ _ _ f_a0_X12_7 (by decide)
                refine lv_goto (tgt := 116) hx hb dX12_choirLineHere_109 (by decide) ?_
                rw [hQ]
                refine W.widen (k := 0) (n := 0) (Nat.le_refl _) (Nat.le_refl _) ?_
                exact W.zret (v := v106) hx hb hr (nb_i (by omega) (by omega)) (fun t ht hW => ⟨⟨v106, w_8, rfl, ⟨(by omega), (by omega), hw.2.2.2.2, hM⟩, by rw [ht]; exact hw.2.1, va_K.moved hW.alike hw.1, hw.2.2.1⟩, hw.2.2.2.1.F ht⟩) hw.2.2.2.1.2.2 dX12_choirLineHere_116
            · simp only [fa_lt, fa_le, fa_eq, li_0] at c_86
              refine lv_aload_n hx hb dX12_choirLineHere_89 rfl (lv_at hl 0 rfl) ?_
              refine lv_iload_n hx hb dX12_choirLineHere_90 rfl (lv_at hl 1 rfl) ?_
              refine t_calli (va_runV (As := [.int a1]) (rest := []) ⟨hx, hb, hml, hown, hts⟩ (t_X12_isFarmHere l dC dI tys κ B w_5 hw.2.2.2.2 a0 k_a0 a1 (by omega) (by omega) H.size) (cwV 1 hts (gUV tw_1331 tw_1333 ts_4_1 tw_13 tw_1334) rfl rfl rfl (by decide +kernel) ⟨(Nat.le_of_ble_eq_true rfl), (Nat.le_of_ble_eq_true rfl)⟩) ⟨cPre.blind, t_recv hw (ci := 12) k_a0 rfl rfl, cPre.use hw.2.1 hw.1 hw.2.2.1 hE⟩ rfl rfl hl.1 rfl (lv_room (Nat.le_of_ble_eq_true rfl)) dX12_choirLineHere_91 ⟨(Nat.le_of_ble_eq_true rfl), (Nat.le_of_ble_eq_true rfl)⟩) hw hA (fun _ _ h => h.2.2.1) (fun v91 w_9 H locs hp hw => ?_)
              obtain ⟨l_v91, h_v91, _, hm⟩ := hp
              have hM := hM.trans hm (by decide) (by decide)
              have f_a0_X12_1 := hm.1 _ _ _ _ f_a0_X12_1 (by decide)
              have f_a0_X12_7 := hm.1 _ _ _ _ f_a0_X12_7 (by decide)
              rw [hQ]
              refine W.widen (k := 0) (n := 0) (Nat.le_refl _) (Nat.le_refl _) ?_
              exact W.zret (v := v91) hx hb hr (nb_i (by omega) (by omega)) (fun t ht hW => ⟨⟨v91, w_9, rfl, ⟨(by omega), (by omega), hw.2.2.2.2, hM⟩, by rw [ht]; exact hw.2.1, va_K.moved hW.alike hw.1, hw.2.2.1⟩, hw.2.2.2.1.F ht⟩) hw.2.2.2.1.2.2 dX12_choirLineHere_94
          · simp only [fa_lt, fa_le, fa_eq, li_0] at c_70
            refine lv_aload_n hx hb dX12_choirLineHere_73 rfl (lv_at hl 0 rfl) ?_
            refine lv_iload_n hx hb dX12_choirLineHere_74 rfl (lv_at hl 1 rfl) ?_
            refine t_calli (va_runV (As := [.int a1]) (rest := []) ⟨hx, hb, hml, hown, hts⟩ (t_X12_isCanonHere l dC dI tys κ B w_4 hw.2.2.2.2 a0 k_a0 a1 (by omega) (by omega) H.size) (cwV 1 hts (gUV tw_1327 tw_1329 ts_4_0 tw_13 tw_1330) rfl rfl rfl (by decide +kernel) ⟨(Nat.le_of_ble_eq_true rfl), (Nat.le_of_ble_eq_true rfl)⟩) ⟨cPre.blind, t_recv hw (ci := 12) k_a0 rfl rfl, cPre.use hw.2.1 hw.1 hw.2.2.1 hE⟩ rfl rfl hl.1 rfl (lv_room (Nat.le_of_ble_eq_true rfl)) dX12_choirLineHere_75 ⟨(Nat.le_of_ble_eq_true rfl), (Nat.le_of_ble_eq_true rfl)⟩) hw hA (fun _ _ h => h.2.2.1) (fun v75 w_10 H locs hp hw => ?_)
            obtain ⟨l_v75, h_v75, _, hm⟩ := hp
            have hM := hM.trans hm (by decide) (by decide)
            have f_a0_X12_1 := hm.1 _ _ _ _ f_a0_X12_1 (by decide)
            have f_a0_X12_7 := hm.1 _ _ _ _ f_a0_X12_7 (by decide)
            rw [hQ]
            refine W.widen (k := 0) (n := 0) (Nat.le_refl _) (Nat.le_refl _) ?_
            exact W.zret (v := v75) hx hb hr (nb_i (by omega) (by omega)) (fun t ht hW => ⟨⟨v75, w_10, rfl, ⟨(by omega), (by omega), hw.2.2.2.2, hM⟩, by rw [ht]; exact hw.2.1, va_K.moved hW.alike hw.1, hw.2.2.1⟩, hw.2.2.2.1.F ht⟩) hw.2.2.2.1.2.2 dX12_choirLineHere_78
        · simp only [fa_lt, fa_le, fa_eq, li_0] at c_55
          refine lv_aload_n hx hb dX12_choirLineHere_58 rfl (lv_at hl 0 rfl) ?_
          refine t_calli (va_runV (As := []) (rest := []) ⟨hx, hb, hml, hown, hts⟩ (t_X12_areLikesHere l dC dI tys κ B w_3 hw.2.2.2.2 a0 k_a0 H.size) (cwV 0 hts (gUV tw_1323 tw_1325 ts_3_15 tw_13 tw_1326) rfl rfl rfl (by decide +kernel) ⟨(Nat.le_of_ble_eq_true rfl), (Nat.le_of_ble_eq_true rfl)⟩) ⟨cPre.blind, t_recv hw (ci := 12) k_a0 rfl rfl, cPre.use hw.2.1 hw.1 hw.2.2.1 hE⟩ rfl rfl hl.1 rfl (lv_room (Nat.le_of_ble_eq_true rfl)) dX12_choirLineHere_59 ⟨(Nat.le_of_ble_eq_true rfl), (Nat.le_of_ble_eq_true rfl)⟩) hw hA (fun _ _ h => h.2.2.1) (fun v59 w_11 H locs hp hw => ?_)
          obtain ⟨l_v59, h_v59, _, hm⟩ := hp
          have hM := hM.trans hm (by decide) (by decide)
          have f_a0_X12_1 := hm.1 _ _ _ _ f_a0_X12_1 (by decide)
          have f_a0_X12_7 := hm.1 _ _ _ _ f_a0_X12_7 (by decide)
          rw [hQ]
          refine W.widen (k := 0) (n := 0) (Nat.le_refl _) (Nat.le_refl _) ?_
          exact W.zret (v := v59) hx hb hr (nb_i (by omega) (by omega)) (fun t ht hW => ⟨⟨v59, w_11, rfl, ⟨(by omega), (by omega), hw.2.2.2.2, hM⟩, by rw [ht]; exact hw.2.1, va_K.moved hW.alike hw.1, hw.2.2.1⟩, hw.2.2.2.1.F ht⟩) hw.2.2.2.1.2.2 dX12_choirLineHere_62
      · simp only [fa_lt, fa_le, fa_eq, li_0] at c_39
        refine lv_aload_n hx hb dX12_choirLineHere_42 rfl (lv_at hl 0 rfl) ?_
        refine lv_iload_n hx hb dX12_choirLineHere_43 rfl (lv_at hl 1 rfl) ?_
        refine t_calli (va_runV (As := [.int a1]) (rest := []) ⟨hx, hb, hml, hown, hts⟩ (t_X12_isBoyHere l dC dI tys κ B w_2 hw.2.2.2.2 a0 k_a0 a1 (by omega) (by omega) H.size) (cwV 1 hts (gUV tw_1319 tw_1321 ts_3_14 tw_13 tw_1322) rfl rfl rfl (by decide +kernel) ⟨(Nat.le_of_ble_eq_true rfl), (Nat.le_of_ble_eq_true rfl)⟩) ⟨cPre.blind, t_recv hw (ci := 12) k_a0 rfl rfl, cPre.use hw.2.1 hw.1 hw.2.2.1 hE⟩ rfl rfl hl.1 rfl (lv_room (Nat.le_of_ble_eq_true rfl)) dX12_choirLineHere_44 ⟨(Nat.le_of_ble_eq_true rfl), (Nat.le_of_ble_eq_true rfl)⟩) hw hA (fun _ _ h => h.2.2.1) (fun v44 w_12 H locs hp hw => ?_)
        obtain ⟨l_v44, h_v44, _, hm⟩ := hp
        have hM := hM.trans hm (by decide) (by decide)
        have f_a0_X12_1 := hm.1 _ _ _ _ f_a0_X12_1 (by decide)
        have f_a0_X12_7 := hm.1 _ _ _ _ f_a0_X12_7 (by decide)
        rw [hQ]
        refine W.widen (k := 0) (n := 0) (Nat.le_refl _) (Nat.le_refl _) ?_
        exact W.zret (v := v44) hx hb hr (nb_i (by omega) (by omega)) (fun t ht hW => ⟨⟨v44, w_12, rfl, ⟨(by omega), (by omega), hw.2.2.2.2, hM⟩, by rw [ht]; exact hw.2.1, va_K.moved hW.alike hw.1, hw.2.2.1⟩, hw.2.2.2.1.F ht⟩) hw.2.2.2.1.2.2 dX12_choirLineHere_47
    · simp only [fa_lt, fa_le, fa_eq, li_0] at c_22
      refine lv_aload_n hx hb dX12_choirLineHere_25 rfl (lv_at hl 0 rfl) ?_
      refine lv_iconst (v := 4) hx hb dX12_choirLineHere_26 (by decide) ?_
      refine lv_iload_n hx hb dX12_choirLineHere_27 rfl (lv_at hl 1 rfl) ?_
      refine t_calli (va_runV (As := [.int 4, .int a1]) (rest := []) ⟨hx, hb, hml, hown, hts⟩ (t_X12_fails l dC dI tys κ B w_1 hw.2.2.2.2 a0 k_a0 4 (by decide) (by decide) a1 (by omega) (by omega) H.size) (cwV 2 hts (gUV tw_1288 tw_1290 ts_3_7 tw_13 tw_1291) rfl rfl rfl (by decide +kernel) ⟨(Nat.le_of_ble_eq_true rfl), (Nat.le_of_ble_eq_true rfl)⟩) ⟨cPre.blind, t_recv hw (ci := 12) k_a0 rfl rfl, cPre.use hw.2.1 hw.1 hw.2.2.1 hE⟩ rfl rfl hl.1 rfl (lv_room (Nat.le_of_ble_eq_true rfl)) dX12_choirLineHere_28 ⟨(Nat.le_of_ble_eq_true rfl), (Nat.le_of_ble_eq_true rfl)⟩) hw hA (fun _ _ h => h.2.2.1) (fun v28 w_13 H locs hp hw => ?_)
      obtain ⟨l_v28, h_v28, _, hm⟩ := hp
      have hM := hM.trans hm (by decide) (by decide)
      have f_a0_X12_1 := hm.1 _ _ _ _ f_a0_X12_1 (by decide)
      have f_a0_X12_8 := hm.1 _ _ _ _ f_a0_X12_8 (by decide)
      have f_a0_X12_7 := hm.1 _ _ _ _ f_a0_X12_7 (by decide)
      have f_v17_M_read_0 := hm.elt k_v17 (by decide) f_v17_M_read_0
      rw [hQ]
      refine W.widen (k := 0) (n := 0) (Nat.le_refl _) (Nat.le_refl _) ?_
      exact W.zret (v := v28) hx hb hr (nb_i (by omega) (by omega)) (fun t ht hW => ⟨⟨v28, w_13, rfl, ⟨(by omega), (by omega), hw.2.2.2.2, hM⟩, by rw [ht]; exact hw.2.1, va_K.moved hW.alike hw.1, hw.2.2.1⟩, hw.2.2.2.1.F ht⟩) hw.2.2.2.1.2.2 dX12_choirLineHere_31
  · simp only [fa_lt, fa_le, fa_eq, li_0] at c_7
    refine lv_aload_n hx hb dX12_choirLineHere_10 rfl (lv_at hl 0 rfl) ?_
    refine lv_iload_n hx hb dX12_choirLineHere_11 rfl (lv_at hl 1 rfl) ?_
    refine t_calli (va_runV (As := [.int a1]) (rest := []) ⟨hx, hb, hml, hown, hts⟩ (t_X12_isChoirHere l dC dI tys κ B w_1 hw.2.2.2.2 a0 k_a0 a1 (by omega) (by omega) H.size) (cwV 1 hts (gUV tw_1296 tw_1298 ts_3_9 tw_13 tw_1299) rfl rfl rfl (by decide +kernel) ⟨(Nat.le_of_ble_eq_true rfl), (Nat.le_of_ble_eq_true rfl)⟩) ⟨cPre.blind, t_recv hw (ci := 12) k_a0 rfl rfl, cPre.use hw.2.1 hw.1 hw.2.2.1 hE⟩ rfl rfl hl.1 rfl (lv_room (Nat.le_of_ble_eq_true rfl)) dX12_choirLineHere_12 ⟨(Nat.le_of_ble_eq_true rfl), (Nat.le_of_ble_eq_true rfl)⟩) hw hA (fun _ _ h => h.2.2.1) (fun v12 w_14 H locs hp hw => ?_)
    obtain ⟨l_v12, h_v12, _, hm⟩ := hp
    have hM := hM.trans hm (by decide) (by decide)
    have f_a0_X12_1 := hm.1 _ _ _ _ f_a0_X12_1 (by decide)
    rw [hQ]
    refine W.widen (k := 0) (n := 0) (Nat.le_refl _) (Nat.le_refl _) ?_
    exact W.zret (v := v12) hx hb hr (nb_i (by omega) (by omega)) (fun t ht hW => ⟨⟨v12, w_14, rfl, ⟨(by omega), (by omega), hw.2.2.2.2, hM⟩, by rw [ht]; exact hw.2.1, va_K.moved hW.alike hw.1, hw.2.2.1⟩, hw.2.2.2.1.F ht⟩) hw.2.2.2.1.2.2 dX12_choirLineHere_15
set_option maxHeartbeats 4000000 in
set_option maxRecDepth 100000 in
theorem t_X12_isChoirWord (l : Launch) (dC : Nat → ClassId) (dI : Nat → Nat → Nat) (tys : List (ClassId × FieldType)) (κ : tK) (B : Nat) (ws : va_W) (hT : Ty κ tys B ws) (a0 : Nat) (k_a0 : κ a0 = some 12) (sz : Nat) : Met l yX12_isChoirWord (ws_u yX12_isChoirWord cX12_isChoirWord 1 (some .boolean)) ({ frames := 2, cells := 0, slots := 0, locals := 46 }) (va_Pc [.ref a0] (cPre (dC, dI) tys ws sz)) (va_Qi (fun (r : Int32) (w : va_W) => 0 ≤ r.toInt ∧ r.toInt ≤ 1 ∧ Ty κ tys B w ∧ Sm [(12, 8)] [] κ ws w) (fun w t => cPost (dC, dI) tys w (va_A ws sz) t) (va_A ws sz)) 0 0 (va_A ws sz) := by
  refine Met.ofW (cc := cX12_isChoirWord) (maxL := 1) (ret := (some .boolean)) (by decide) rfl ?_
  intro p e s m args below meth c s₁ B0 hml hv
  obtain ⟨rfl, hsz, hP, hK, hD0, hE⟩ := hv
  have hx := B0.exec
  have hb := B0.bytes
  have hr := B0.returns
  have hts0 := atoms_spec (ws := ws_u yX12_isChoirWord cX12_isChoirWord 1 (some .boolean)) B0.pre
  have hts : ∀ w ∈ gT, w.before _ s = true := fun w h => hts0 w (List.mem_cons_of_mem _ h)
  have hown : s.vm.findClass RX12 = some m.cls := findClass_of_methodNamed B0.named
  have hlocks := B0.notSynchronized
  subst hsz
  have hD := hD0.self (sz := s.heap.size)
  generalize hAe : va_A ws s.heap.size = A at hD ⊢
  have hA : ∀ q : Nat, s.heap.size ≤ q → A q := fun q h => by rw [← hAe]; exact Or.inr h
  have hw : tW (dC, dI) tys κ B A s ws s.heap [] := ⟨hK, hP, hD, va_S.rf, hT⟩
  have hM : Sm [(12, 8)] [] κ ws ws := Sm.rf
  clear hP hK hD hD0 hts0
  have hl := lv_entry ([.ref a0]) (n := 1) (Nat.le_of_ble_eq_true rfl)
  rw [lg_entry_eq]
  generalize (lg_sl ([.ref a0]) ++ List.replicate (1 - (lg_sl ([.ref a0])).length) Slot.unset).toArray = ls at hl ⊢
  have hl : lv_has ls 1 [(0, .ref a0)] := hl
  refine t_start (fun QQ hQ => ?_)
  refine lv_aload_n hx hb dX12_isChoirWord_0 rfl (lv_at hl 0 rfl) ?_
  refine lv_ldc2 (v := 426953894258) hx hb hown (hts _ tw_1272) dX12_isChoirWord_1 ?_
  refine lv_topl (fun v1 e_v1 => ?_)
  have t_v1 : v1.toInt = 426953894258 := by rw [e_v1]; decide
  obtain ⟨u_v4q0, q_v4q0, f_a0_X12_8⟩ := t_peek (k := 8) hw.2.2.2.2 k_a0 rfl (by decide)
  obtain ⟨v4q0, rfl, l_v4q0, h_v4q0⟩ := q_v4q0.geti (lo := 0) (hi := 401) rfl
  obtain ⟨u_v4q1, q_v4q1, f_a0_X12_1⟩ := t_peek (k := 1) hw.2.2.2.2 k_a0 rfl (by decide)
  obtain ⟨v4q1, rfl, l_v4q1, h_v4q1⟩ := q_v4q1.geti (lo := 0) (hi := 400) rfl
  refine t_calli (va_runV (As := [.long v1]) (rest := []) ⟨hx, hb, hml, hown, hts⟩ (t_X12_isWord l dC dI tys κ B ws hw.2.2.2.2 a0 k_a0 v1 v4q0 (by omega) (by omega) f_a0_X12_8 v4q1 (by omega) (by omega) f_a0_X12_1 s.heap.size) (cwV 1 hts (gUV tw_1273 tw_1275 ts_3_5 tw_13 tw_1276) rfl rfl rfl (by decide +kernel) ⟨(Nat.le_of_ble_eq_true rfl), (Nat.le_of_ble_eq_true rfl)⟩) ⟨cPre.blind, t_recv hw (ci := 12) k_a0 rfl rfl, cPre.use hw.2.1 hw.1 hw.2.2.1 hE⟩ rfl rfl hl.1 rfl (lv_room (Nat.le_of_ble_eq_true rfl)) dX12_isChoirWord_4 ⟨(Nat.le_of_ble_eq_true rfl), (Nat.le_of_ble_eq_true rfl)⟩) hw hA (fun _ _ h => h.2.2.1) (fun v4 w_1 H locs hp hw => ?_)
  obtain ⟨l_v4, h_v4, _, hm, ⟨v4n, l_v4n, h_v4n, f_a0_X12_8, y_v4⟩⟩ := hp
  have hM := hM.trans hm (by decide) (by decide)
  have f_a0_X12_1 := hm.1 _ _ _ _ f_a0_X12_1 (by decide)
  refine lv_if_ne (tgt := 70) hx hb dX12_isChoirWord_7 (by decide) (fun c_7 => ?_) (fun c_7 => ?_)
  · simp only [fa_lt, fa_le, fa_eq, li_0] at c_7
    refine lv_iconst (v := 1) hx hb dX12_isChoirWord_70 (by decide) ?_
    refine lv_goto (tgt := 75) hx hb dX12_isChoirWord_71 (by decide) ?_
    rw [hQ]
    refine W.widen (k := 0) (n := 0) (Nat.le_refl _) (Nat.le_refl _) ?_
    exact W.zret (v := 1) hx hb hr rfl (fun t ht hW => ⟨⟨1, w_1, rfl, ⟨(by decide), (by decide), hw.2.2.2.2, hM⟩, by rw [ht]; exact hw.2.1, va_K.moved hW.alike hw.1, hw.2.2.1⟩, hw.2.2.2.1.F ht⟩) hw.2.2.2.1.2.2 dX12_isChoirWord_75
  · simp only [fa_lt, fa_le, fa_eq, li_0] at c_7
    refine lv_aload_n hx hb dX12_isChoirWord_10 rfl (lv_at hl 0 rfl) ?_
    refine lv_ldc2 (v := 6451065) hx hb hown (hts _ tw_1281) dX12_isChoirWord_11 ?_
    refine lv_topl (fun v11 e_v11 => ?_)
    have t_v11 : v11.toInt = 6451065 := by rw [e_v11]; decide
    refine t_calli (va_runV (As := [.long v11]) (rest := []) ⟨hx, hb, hml, hown, hts⟩ (t_X12_isWord l dC dI tys κ B w_1 hw.2.2.2.2 a0 k_a0 v11 v4n (by omega) (by omega) f_a0_X12_8 v4q1 (by omega) (by omega) f_a0_X12_1 H.size) (cwV 1 hts (gUV tw_1273 tw_1275 ts_3_5 tw_13 tw_1276) rfl rfl rfl (by decide +kernel) ⟨(Nat.le_of_ble_eq_true rfl), (Nat.le_of_ble_eq_true rfl)⟩) ⟨cPre.blind, t_recv hw (ci := 12) k_a0 rfl rfl, cPre.use hw.2.1 hw.1 hw.2.2.1 hE⟩ rfl rfl hl.1 rfl (lv_room (Nat.le_of_ble_eq_true rfl)) dX12_isChoirWord_14 ⟨(Nat.le_of_ble_eq_true rfl), (Nat.le_of_ble_eq_true rfl)⟩) hw hA (fun _ _ h => h.2.2.1) (fun v14 w_2 H locs hp hw => ?_)
    obtain ⟨l_v14, h_v14, _, hm, ⟨v14n, l_v14n, h_v14n, f_a0_X12_8, y_v14⟩⟩ := hp
    have hM := hM.trans hm (by decide) (by decide)
    have f_a0_X12_1 := hm.1 _ _ _ _ f_a0_X12_1 (by decide)
    refine lv_if_ne (tgt := 70) hx hb dX12_isChoirWord_17 (by decide) (fun c_17 => ?_) (fun c_17 => ?_)
    · simp only [fa_lt, fa_le, fa_eq, li_0] at c_17
      refine lv_iconst (v := 1) hx hb dX12_isChoirWord_70 (by decide) ?_
      refine lv_goto (tgt := 75) hx hb dX12_isChoirWord_71 (by decide) ?_
      rw [hQ]
      refine W.widen (k := 0) (n := 0) (Nat.le_refl _) (Nat.le_refl _) ?_
      exact W.zret (v := 1) hx hb hr rfl (fun t ht hW => ⟨⟨1, w_2, rfl, ⟨(by decide), (by decide), hw.2.2.2.2, hM⟩, by rw [ht]; exact hw.2.1, va_K.moved hW.alike hw.1, hw.2.2.1⟩, hw.2.2.2.1.F ht⟩) hw.2.2.2.1.2.2 dX12_isChoirWord_75
    · simp only [fa_lt, fa_le, fa_eq, li_0] at c_17
      refine lv_aload_n hx hb dX12_isChoirWord_20 rfl (lv_at hl 0 rfl) ?_
      refine lv_ldc2 (v := 465625113971) hx hb hown (hts _ tw_1282) dX12_isChoirWord_21 ?_
      refine lv_topl (fun v21 e_v21 => ?_)
      have t_v21 : v21.toInt = 465625113971 := by rw [e_v21]; decide
      refine t_calli (va_runV (As := [.long v21]) (rest := []) ⟨hx, hb, hml, hown, hts⟩ (t_X12_isWord l dC dI tys κ B w_2 hw.2.2.2.2 a0 k_a0 v21 v14n (by omega) (by omega) f_a0_X12_8 v4q1 (by omega) (by omega) f_a0_X12_1 H.size) (cwV 1 hts (gUV tw_1273 tw_1275 ts_3_5 tw_13 tw_1276) rfl rfl rfl (by decide +kernel) ⟨(Nat.le_of_ble_eq_true rfl), (Nat.le_of_ble_eq_true rfl)⟩) ⟨cPre.blind, t_recv hw (ci := 12) k_a0 rfl rfl, cPre.use hw.2.1 hw.1 hw.2.2.1 hE⟩ rfl rfl hl.1 rfl (lv_room (Nat.le_of_ble_eq_true rfl)) dX12_isChoirWord_24 ⟨(Nat.le_of_ble_eq_true rfl), (Nat.le_of_ble_eq_true rfl)⟩) hw hA (fun _ _ h => h.2.2.1) (fun v24 w_3 H locs hp hw => ?_)
      obtain ⟨l_v24, h_v24, _, hm, ⟨v24n, l_v24n, h_v24n, f_a0_X12_8, y_v24⟩⟩ := hp
      have hM := hM.trans hm (by decide) (by decide)
      have f_a0_X12_1 := hm.1 _ _ _ _ f_a0_X12_1 (by decide)
      refine lv_if_ne (tgt := 70) hx hb dX12_isChoirWord_27 (by decide) (fun c_27 => ?_) (fun c_27 => ?_)
      · simp only [fa_lt, fa_le, fa_eq, li_0] at c_27
        refine lv_iconst (v := 1) hx hb dX12_isChoirWord_70 (by decide) ?_
        refine lv_goto (tgt := 75) hx hb dX12_isChoirWord_71 (by decide) ?_
        rw [hQ]
        refine W.widen (k := 0) (n := 0) (Nat.le_refl _) (Nat.le_refl _) ?_
        exact W.zret (v := 1) hx hb hr rfl (fun t ht hW => ⟨⟨1, w_3, rfl, ⟨(by decide), (by decide), hw.2.2.2.2, hM⟩, by rw [ht]; exact hw.2.1, va_K.moved hW.alike hw.1, hw.2.2.1⟩, hw.2.2.2.1.F ht⟩) hw.2.2.2.1.2.2 dX12_isChoirWord_75
      · simp only [fa_lt, fa_le, fa_eq, li_0] at c_27
        refine lv_aload_n hx hb dX12_isChoirWord_30 rfl (lv_at hl 0 rfl) ?_
        refine lv_ldc2 (v := 426836389742) hx hb hown (hts _ tw_1283) dX12_isChoirWord_31 ?_
        refine lv_topl (fun v31 e_v31 => ?_)
        have t_v31 : v31.toInt = 426836389742 := by rw [e_v31]; decide
        refine t_calli (va_runV (As := [.long v31]) (rest := []) ⟨hx, hb, hml, hown, hts⟩ (t_X12_isWord l dC dI tys κ B w_3 hw.2.2.2.2 a0 k_a0 v31 v24n (by omega) (by omega) f_a0_X12_8 v4q1 (by omega) (by omega) f_a0_X12_1 H.size) (cwV 1 hts (gUV tw_1273 tw_1275 ts_3_5 tw_13 tw_1276) rfl rfl rfl (by decide +kernel) ⟨(Nat.le_of_ble_eq_true rfl), (Nat.le_of_ble_eq_true rfl)⟩) ⟨cPre.blind, t_recv hw (ci := 12) k_a0 rfl rfl, cPre.use hw.2.1 hw.1 hw.2.2.1 hE⟩ rfl rfl hl.1 rfl (lv_room (Nat.le_of_ble_eq_true rfl)) dX12_isChoirWord_34 ⟨(Nat.le_of_ble_eq_true rfl), (Nat.le_of_ble_eq_true rfl)⟩) hw hA (fun _ _ h => h.2.2.1) (fun v34 w_4 H locs hp hw => ?_)
        obtain ⟨l_v34, h_v34, _, hm, ⟨v34n, l_v34n, h_v34n, f_a0_X12_8, y_v34⟩⟩ := hp
        have hM := hM.trans hm (by decide) (by decide)
        have f_a0_X12_1 := hm.1 _ _ _ _ f_a0_X12_1 (by decide)
        refine lv_if_ne (tgt := 70) hx hb dX12_isChoirWord_37 (by decide) (fun c_37 => ?_) (fun c_37 => ?_)
        · simp only [fa_lt, fa_le, fa_eq, li_0] at c_37
          refine lv_iconst (v := 1) hx hb dX12_isChoirWord_70 (by decide) ?_
          refine lv_goto (tgt := 75) hx hb dX12_isChoirWord_71 (by decide) ?_
          rw [hQ]
          refine W.widen (k := 0) (n := 0) (Nat.le_refl _) (Nat.le_refl _) ?_
          exact W.zret (v := 1) hx hb hr rfl (fun t ht hW => ⟨⟨1, w_4, rfl, ⟨(by decide), (by decide), hw.2.2.2.2, hM⟩, by rw [ht]; exact hw.2.1, va_K.moved hW.alike hw.1, hw.2.2.1⟩, hw.2.2.2.1.F ht⟩) hw.2.2.2.1.2.2 dX12_isChoirWord_75
        · simp only [fa_lt, fa_le, fa_eq, li_0] at c_37
          refine lv_aload_n hx hb dX12_isChoirWord_40 rfl (lv_at hl 0 rfl) ?_
          refine lv_ldc2 (v := 1717662317) hx hb hown (hts _ tw_1284) dX12_isChoirWord_41 ?_
          refine lv_topl (fun v41 e_v41 => ?_)
          have t_v41 : v41.toInt = 1717662317 := by rw [e_v41]; decide
          refine t_calli (va_runV (As := [.long v41]) (rest := []) ⟨hx, hb, hml, hown, hts⟩ (t_X12_isWord l dC dI tys κ B w_4 hw.2.2.2.2 a0 k_a0 v41 v34n (by omega) (by omega) f_a0_X12_8 v4q1 (by omega) (by omega) f_a0_X12_1 H.size) (cwV 1 hts (gUV tw_1273 tw_1275 ts_3_5 tw_13 tw_1276) rfl rfl rfl (by decide +kernel) ⟨(Nat.le_of_ble_eq_true rfl), (Nat.le_of_ble_eq_true rfl)⟩) ⟨cPre.blind, t_recv hw (ci := 12) k_a0 rfl rfl, cPre.use hw.2.1 hw.1 hw.2.2.1 hE⟩ rfl rfl hl.1 rfl (lv_room (Nat.le_of_ble_eq_true rfl)) dX12_isChoirWord_44 ⟨(Nat.le_of_ble_eq_true rfl), (Nat.le_of_ble_eq_true rfl)⟩) hw hA (fun _ _ h => h.2.2.1) (fun v44 w_5 H locs hp hw => ?_)
          obtain ⟨l_v44, h_v44, _, hm, ⟨v44n, l_v44n, h_v44n, f_a0_X12_8, y_v44⟩⟩ := hp
          have hM := hM.trans hm (by decide) (by decide)
          have f_a0_X12_1 := hm.1 _ _ _ _ f_a0_X12_1 (by decide)
          refine lv_if_ne (tgt := 70) hx hb dX12_isChoirWord_47 (by decide) (fun c_47 => ?_) (fun c_47 => ?_)
          · simp only [fa_lt, fa_le, fa_eq, li_0] at c_47
            refine lv_iconst (v := 1) hx hb dX12_isChoirWord_70 (by decide) ?_
            refine lv_goto (tgt := 75) hx hb dX12_isChoirWord_71 (by decide) ?_
            rw [hQ]
            refine W.widen (k := 0) (n := 0) (Nat.le_refl _) (Nat.le_refl _) ?_
            exact W.zret (v := 1) hx hb hr rfl (fun t ht hW => ⟨⟨1, w_5, rfl, ⟨(by decide), (by decide), hw.2.2.2.2, hM⟩, by rw [ht]; exact hw.2.1, va_K.moved hW.alike hw.1, hw.2.2.1⟩, hw.2.2.2.1.F ht⟩) hw.2.2.2.1.2.2 dX12_isChoirWord_75
          · simp only [fa_lt, fa_le, fa_eq, li_0] at c_47
            refine lv_aload_n hx hb dX12_isChoirWord_50 rfl (lv_at hl 0 rfl) ?_
            refine lv_ldc2 (v := 7823737) hx hb hown (hts _ tw_1285) dX12_isChoirWord_51 ?_
            refine lv_topl (fun v51 e_v51 => ?_)
            have t_v51 : v51.toInt = 7823737 := by rw [e_v51]; decide
            refine t_calli (va_runV (As := [.long v51]) (rest := []) ⟨hx, hb, hml, hown, hts⟩ (t_X12_isWord l dC dI tys κ B w_5 hw.2.2.2.2 a0 k_a0 v51 v44n (by omega) (by omega) f_a0_X12_8 v4q1 (by omega) (by omega) f_a0_X12_1 H.size) (cwV 1 hts (gUV tw_1273 tw_1275 ts_3_5 tw_13 tw_1276) rfl rfl rfl (by decide +kernel) ⟨(Nat.le_of_ble_eq_true rfl), (Nat.le_of_ble_eq_true rfl)⟩) ⟨cPre.blind, t_recv hw (ci := 12) k_a0 rfl rfl, cPre.use hw.2.1 hw.1 hw.2.2.1 hE⟩ rfl rfl hl.1 rfl (lv_room (Nat.le_of_ble_eq_true rfl)) dX12_isChoirWord_54 ⟨(Nat.le_of_ble_eq_true rfl), (Nat.le_of_ble_eq_true rfl)⟩) hw hA (fun _ _ h => h.2.2.1) (fun v54 w_6 H locs hp hw => ?_)
            obtain ⟨l_v54, h_v54, _, hm, ⟨v54n, l_v54n, h_v54n, f_a0_X12_8, y_v54⟩⟩ := hp
            have hM := hM.trans hm (by decide) (by decide)
            have f_a0_X12_1 := hm.1 _ _ _ _ f_a0_X12_1 (by decide)
            refine lv_if_ne (tgt := 70) hx hb dX12_isChoirWord_57 (by decide) (fun c_57 => ?_) (fun c_57 => ?_)
            · simp only [fa_lt, fa_le, fa_eq, li_0] at c_57
              refine lv_iconst (v := 1) hx hb dX12_isChoirWord_70 (by decide) ?_
              refine lv_goto (tgt := 75) hx hb dX12_isChoirWord_71 (by decide) ?_
              rw [hQ]
              refine W.widen (k := 0) (n := 0) (Nat.le_refl _) (Nat.le_refl _) ?_
              exact W.zret (v := 1) hx hb hr rfl (fun t ht hW => ⟨⟨1, w_6, rfl, ⟨(by decide), (by decide), hw.2.2.2.2, hM⟩, by rw [ht]; exact hw.2.1, va_K.moved hW.alike hw.1, hw.2.2.1⟩, hw.2.2.2.1.F ht⟩) hw.2.2.2.1.2.2 dX12_isChoirWord_75
            · simp only [fa_lt, fa_le, fa_eq, li_0] at c_57
              refine lv_aload_n hx hb dX12_isChoirWord_60 rfl (lv_at hl 0 rfl) ?_
              refine lv_ldc2 (v := 1936617335) hx hb hown (hts _ tw_1286) dX12_isChoirWord_61 ?_
              refine lv_topl (fun v61 e_v61 => ?_)
              have t_v61 : v61.toInt = 1936617335 := by rw [e_v61]; decide
              refine t_calli (va_runV (As := [.long v61]) (rest := []) ⟨hx, hb, hml, hown, hts⟩ (t_X12_isWord l dC dI tys κ B w_6 hw.2.2.2.2 a0 k_a0 v61 v54n (by omega) (by omega) f_a0_X12_8 v4q1 (by omega) (by omega) f_a0_X12_1 H.size) (cwV 1 hts (gUV tw_1273 tw_1275 ts_3_5 tw_13 tw_1276) rfl rfl rfl (by decide +kernel) ⟨(Nat.le_of_ble_eq_true rfl), (Nat.le_of_ble_eq_true rfl)⟩) ⟨cPre.blind, t_recv hw (ci := 12) k_a0 rfl rfl, cPre.use hw.2.1 hw.1 hw.2.2.1 hE⟩ rfl rfl hl.1 rfl (lv_room (Nat.le_of_ble_eq_true rfl)) dX12_isChoirWord_64 ⟨(Nat.le_of_ble_eq_true rfl), (Nat.le_of_ble_eq_true rfl)⟩) hw hA (fun _ _ h => h.2.2.1) (fun v64 w_7 H locs hp hw => ?_)
              obtain ⟨l_v64, h_v64, _, hm, ⟨v64n, l_v64n, h_v64n, f_a0_X12_8, y_v64⟩⟩ := hp
              have hM := hM.trans hm (by decide) (by decide)
              have f_a0_X12_1 := hm.1 _ _ _ _ f_a0_X12_1 (by decide)
              refine lv_if_eq (tgt := 74) hx hb dX12_isChoirWord_67 (by decide) (fun c_67 => ?_) (fun c_67 => ?_)
              · simp only [fa_lt, fa_le, fa_eq, li_0] at c_67
                refine lv_iconst (v := 0) hx hb dX12_isChoirWord_74 (by decide) ?_
                rw [hQ]
                refine W.widen (k := 0) (n := 0) (Nat.le_refl _) (Nat.le_refl _) ?_
                exact W.zret (v := 0) hx hb hr rfl (fun t ht hW => ⟨⟨0, w_7, rfl, ⟨(by decide), (by decide), hw.2.2.2.2, hM⟩, by rw [ht]; exact hw.2.1, va_K.moved hW.alike hw.1, hw.2.2.1⟩, hw.2.2.2.1.F ht⟩) hw.2.2.2.1.2.2 dX12_isChoirWord_75
              · simp only [fa_lt, fa_le, fa_eq, li_0] at c_67
                refine lv_iconst (v := 1) hx hb dX12_isChoirWord_70 (by decide) ?_
                refine lv_goto (tgt := 75) hx hb dX12_isChoirWord_71 (by decide) ?_
                rw [hQ]
                refine W.widen (k := 0) (n := 0) (Nat.le_refl _) (Nat.le_refl _) ?_
                exact W.zret (v := 1) hx hb hr rfl (fun t ht hW => ⟨⟨1, w_7, rfl, ⟨(by decide), (by decide), hw.2.2.2.2, hM⟩, by rw [ht]; exact hw.2.1, va_K.moved hW.alike hw.1, hw.2.2.1⟩, hw.2.2.2.1.F ht⟩) hw.2.2.2.1.2.2 dX12_isChoirWord_75
set_option maxHeartbeats 4000000 in
set_option maxRecDepth 100000 in
theorem t_X12_wordHere (l : Launch) (dC : Nat → ClassId) (dI : Nat → Nat → Nat) (tys : List (ClassId × FieldType)) (κ : tK) (B : Nat) (ws : va_W) (hT : Ty κ tys B ws) (a0 : Nat) (k_a0 : κ a0 = some 12) (sz : Nat) : Met l yX12_wordHere (ws_u yX12_wordHere cX12_wordHere 1 (some .int)) ({ frames := 2, cells := 0, slots := 0, locals := 46 }) (va_Pc [.ref a0] (cPre (dC, dI) tys ws sz)) (va_Qi (fun (r : Int32) (w : va_W) => (-1) ≤ r.toInt ∧ r.toInt ≤ 10 ∧ Ty κ tys B w ∧ Sm [(12, 8)] [] κ ws w) (fun w t => cPost (dC, dI) tys w (va_A ws sz) t) (va_A ws sz)) 0 0 (va_A ws sz) := by
  refine Met.ofW (cc := cX12_wordHere) (maxL := 1) (ret := (some .int)) (by decide) rfl ?_
  intro p e s m args below meth c s₁ B0 hml hv
  obtain ⟨rfl, hsz, hP, hK, hD0, hE⟩ := hv
  have hx := B0.exec
  have hb := B0.bytes
  have hr := B0.returns
  have hts0 := atoms_spec (ws := ws_u yX12_wordHere cX12_wordHere 1 (some .int)) B0.pre
  have hts : ∀ w ∈ gT, w.before _ s = true := fun w h => hts0 w (List.mem_cons_of_mem _ h)
  have hown : s.vm.findClass RX12 = some m.cls := findClass_of_methodNamed B0.named
  have hlocks := B0.notSynchronized
  subst hsz
  have hD := hD0.self (sz := s.heap.size)
  generalize hAe : va_A ws s.heap.size = A at hD ⊢
  have hA : ∀ q : Nat, s.heap.size ≤ q → A q := fun q h => by rw [← hAe]; exact Or.inr h
  have hw : tW (dC, dI) tys κ B A s ws s.heap [] := ⟨hK, hP, hD, va_S.rf, hT⟩
  have hM : Sm [(12, 8)] [] κ ws ws := Sm.rf
  clear hP hK hD hD0 hts0
  have hl := lv_entry ([.ref a0]) (n := 1) (Nat.le_of_ble_eq_true rfl)
  rw [lg_entry_eq]
  generalize (lg_sl ([.ref a0]) ++ List.replicate (1 - (lg_sl ([.ref a0])).length) Slot.unset).toArray = ls at hl ⊢
  have hl : lv_has ls 1 [(0, .ref a0)] := hl
  refine t_start (fun QQ hQ => ?_)
  refine lv_aload_n hx hb dX12_wordHere_0 rfl (lv_at hl 0 rfl) ?_
  refine lv_ldc2 (v := 508676040050) hx hb hown (hts _ tw_1372) dX12_wordHere_1 ?_
  refine lv_topl (fun v1 e_v1 => ?_)
  have t_v1 : v1.toInt = 508676040050 := by rw [e_v1]; decide
  obtain ⟨u_v4q0, q_v4q0, f_a0_X12_8⟩ := t_peek (k := 8) hw.2.2.2.2 k_a0 rfl (by decide)
  obtain ⟨v4q0, rfl, l_v4q0, h_v4q0⟩ := q_v4q0.geti (lo := 0) (hi := 401) rfl
  obtain ⟨u_v4q1, q_v4q1, f_a0_X12_1⟩ := t_peek (k := 1) hw.2.2.2.2 k_a0 rfl (by decide)
  obtain ⟨v4q1, rfl, l_v4q1, h_v4q1⟩ := q_v4q1.geti (lo := 0) (hi := 400) rfl
  refine t_calli (va_runV (As := [.long v1]) (rest := []) ⟨hx, hb, hml, hown, hts⟩ (t_X12_isWord l dC dI tys κ B ws hw.2.2.2.2 a0 k_a0 v1 v4q0 (by omega) (by omega) f_a0_X12_8 v4q1 (by omega) (by omega) f_a0_X12_1 s.heap.size) (cwV 1 hts (gUV tw_1273 tw_1275 ts_3_5 tw_13 tw_1276) rfl rfl rfl (by decide +kernel) ⟨(Nat.le_of_ble_eq_true rfl), (Nat.le_of_ble_eq_true rfl)⟩) ⟨cPre.blind, t_recv hw (ci := 12) k_a0 rfl rfl, cPre.use hw.2.1 hw.1 hw.2.2.1 hE⟩ rfl rfl hl.1 rfl (lv_room (Nat.le_of_ble_eq_true rfl)) dX12_wordHere_4 ⟨(Nat.le_of_ble_eq_true rfl), (Nat.le_of_ble_eq_true rfl)⟩) hw hA (fun _ _ h => h.2.2.1) (fun v4 w_1 H locs hp hw => ?_)
  obtain ⟨l_v4, h_v4, _, hm, ⟨v4n, l_v4n, h_v4n, f_a0_X12_8, y_v4⟩⟩ := hp
  have hM := hM.trans hm (by decide) (by decide)
  have f_a0_X12_1 := hm.1 _ _ _ _ f_a0_X12_1 (by decide)
  refine lv_if_eq (tgt := 12) hx hb dX12_wordHere_7 (by decide) (fun c_7 => ?_) (fun c_7 => ?_)
  · simp only [fa_lt, fa_le, fa_eq, li_0] at c_7
    refine lv_aload_n hx hb dX12_wordHere_12 rfl (lv_at hl 0 rfl) ?_
    refine lv_ldc2 (v := 6451065) hx hb hown (hts _ tw_1281) dX12_wordHere_13 ?_
    refine lv_topl (fun v13 e_v13 => ?_)
    have t_v13 : v13.toInt = 6451065 := by rw [e_v13]; decide
    refine t_calli (va_runV (As := [.long v13]) (rest := []) ⟨hx, hb, hml, hown, hts⟩ (t_X12_isWord l dC dI tys κ B w_1 hw.2.2.2.2 a0 k_a0 v13 v4n (by omega) (by omega) f_a0_X12_8 v4q1 (by omega) (by omega) f_a0_X12_1 H.size) (cwV 1 hts (gUV tw_1273 tw_1275 ts_3_5 tw_13 tw_1276) rfl rfl rfl (by decide +kernel) ⟨(Nat.le_of_ble_eq_true rfl), (Nat.le_of_ble_eq_true rfl)⟩) ⟨cPre.blind, t_recv hw (ci := 12) k_a0 rfl rfl, cPre.use hw.2.1 hw.1 hw.2.2.1 hE⟩ rfl rfl hl.1 rfl (lv_room (Nat.le_of_ble_eq_true rfl)) dX12_wordHere_16 ⟨(Nat.le_of_ble_eq_true rfl), (Nat.le_of_ble_eq_true rfl)⟩) hw hA (fun _ _ h => h.2.2.1) (fun v16 w_2 H locs hp hw => ?_)
    obtain ⟨l_v16, h_v16, _, hm, ⟨v16n, l_v16n, h_v16n, f_a0_X12_8, y_v16⟩⟩ := hp
    have hM := hM.trans hm (by decide) (by decide)
    have f_a0_X12_1 := hm.1 _ _ _ _ f_a0_X12_1 (by decide)
    refine lv_if_eq (tgt := 24) hx hb dX12_wordHere_19 (by decide) (fun c_19 => ?_) (fun c_19 => ?_)
    · simp only [fa_lt, fa_le, fa_eq, li_0] at c_19
      refine lv_aload_n hx hb dX12_wordHere_24 rfl (lv_at hl 0 rfl) ?_
      refine lv_ldc2 (v := 508675318629) hx hb hown (hts _ tw_1373) dX12_wordHere_25 ?_
      refine lv_topl (fun v25 e_v25 => ?_)
      have t_v25 : v25.toInt = 508675318629 := by rw [e_v25]; decide
      refine t_calli (va_runV (As := [.long v25]) (rest := []) ⟨hx, hb, hml, hown, hts⟩ (t_X12_isWord l dC dI tys κ B w_2 hw.2.2.2.2 a0 k_a0 v25 v16n (by omega) (by omega) f_a0_X12_8 v4q1 (by omega) (by omega) f_a0_X12_1 H.size) (cwV 1 hts (gUV tw_1273 tw_1275 ts_3_5 tw_13 tw_1276) rfl rfl rfl (by decide +kernel) ⟨(Nat.le_of_ble_eq_true rfl), (Nat.le_of_ble_eq_true rfl)⟩) ⟨cPre.blind, t_recv hw (ci := 12) k_a0 rfl rfl, cPre.use hw.2.1 hw.1 hw.2.2.1 hE⟩ rfl rfl hl.1 rfl (lv_room (Nat.le_of_ble_eq_true rfl)) dX12_wordHere_28 ⟨(Nat.le_of_ble_eq_true rfl), (Nat.le_of_ble_eq_true rfl)⟩) hw hA (fun _ _ h => h.2.2.1) (fun v28 w_3 H locs hp hw => ?_)
      obtain ⟨l_v28, h_v28, _, hm, ⟨v28n, l_v28n, h_v28n, f_a0_X12_8, y_v28⟩⟩ := hp
      have hM := hM.trans hm (by decide) (by decide)
      have f_a0_X12_1 := hm.1 _ _ _ _ f_a0_X12_1 (by decide)
      refine lv_if_eq (tgt := 36) hx hb dX12_wordHere_31 (by decide) (fun c_31 => ?_) (fun c_31 => ?_)
      · simp only [fa_lt, fa_le, fa_eq, li_0] at c_31
        refine lv_aload_n hx hb dX12_wordHere_36 rfl (lv_at hl 0 rfl) ?_
        refine lv_ldc2 (v := 495672455781) hx hb hown (hts _ tw_1374) dX12_wordHere_37 ?_
        refine lv_topl (fun v37 e_v37 => ?_)
        have t_v37 : v37.toInt = 495672455781 := by rw [e_v37]; decide
        refine t_calli (va_runV (As := [.long v37]) (rest := []) ⟨hx, hb, hml, hown, hts⟩ (t_X12_isWord l dC dI tys κ B w_3 hw.2.2.2.2 a0 k_a0 v37 v28n (by omega) (by omega) f_a0_X12_8 v4q1 (by omega) (by omega) f_a0_X12_1 H.size) (cwV 1 hts (gUV tw_1273 tw_1275 ts_3_5 tw_13 tw_1276) rfl rfl rfl (by decide +kernel) ⟨(Nat.le_of_ble_eq_true rfl), (Nat.le_of_ble_eq_true rfl)⟩) ⟨cPre.blind, t_recv hw (ci := 12) k_a0 rfl rfl, cPre.use hw.2.1 hw.1 hw.2.2.1 hE⟩ rfl rfl hl.1 rfl (lv_room (Nat.le_of_ble_eq_true rfl)) dX12_wordHere_40 ⟨(Nat.le_of_ble_eq_true rfl), (Nat.le_of_ble_eq_true rfl)⟩) hw hA (fun _ _ h => h.2.2.1) (fun v40 w_4 H locs hp hw => ?_)
        obtain ⟨l_v40, h_v40, _, hm, ⟨v40n, l_v40n, h_v40n, f_a0_X12_8, y_v40⟩⟩ := hp
        have hM := hM.trans hm (by decide) (by decide)
        have f_a0_X12_1 := hm.1 _ _ _ _ f_a0_X12_1 (by decide)
        refine lv_if_eq (tgt := 48) hx hb dX12_wordHere_43 (by decide) (fun c_43 => ?_) (fun c_43 => ?_)
        · simp only [fa_lt, fa_le, fa_eq, li_0] at c_43
          refine lv_aload_n hx hb dX12_wordHere_48 rfl (lv_at hl 0 rfl) ?_
          refine lv_ldc2 (v := 465625113971) hx hb hown (hts _ tw_1282) dX12_wordHere_49 ?_
          refine lv_topl (fun v49 e_v49 => ?_)
          have t_v49 : v49.toInt = 465625113971 := by rw [e_v49]; decide
          refine t_calli (va_runV (As := [.long v49]) (rest := []) ⟨hx, hb, hml, hown, hts⟩ (t_X12_isWord l dC dI tys κ B w_4 hw.2.2.2.2 a0 k_a0 v49 v40n (by omega) (by omega) f_a0_X12_8 v4q1 (by omega) (by omega) f_a0_X12_1 H.size) (cwV 1 hts (gUV tw_1273 tw_1275 ts_3_5 tw_13 tw_1276) rfl rfl rfl (by decide +kernel) ⟨(Nat.le_of_ble_eq_true rfl), (Nat.le_of_ble_eq_true rfl)⟩) ⟨cPre.blind, t_recv hw (ci := 12) k_a0 rfl rfl, cPre.use hw.2.1 hw.1 hw.2.2.1 hE⟩ rfl rfl hl.1 rfl (lv_room (Nat.le_of_ble_eq_true rfl)) dX12_wordHere_52 ⟨(Nat.le_of_ble_eq_true rfl), (Nat.le_of_ble_eq_true rfl)⟩) hw hA (fun _ _ h => h.2.2.1) (fun v52 w_5 H locs hp hw => ?_)
          obtain ⟨l_v52, h_v52, _, hm, ⟨v52n, l_v52n, h_v52n, f_a0_X12_8, y_v52⟩⟩ := hp
          have hM := hM.trans hm (by decide) (by decide)
          have f_a0_X12_1 := hm.1 _ _ _ _ f_a0_X12_1 (by decide)
          refine lv_if_eq (tgt := 60) hx hb dX12_wordHere_55 (by decide) (fun c_55 => ?_) (fun c_55 => ?_)
          · simp only [fa_lt, fa_le, fa_eq, li_0] at c_55
            refine lv_aload_n hx hb dX12_wordHere_60 rfl (lv_at hl 0 rfl) ?_
            refine lv_ldc2 (v := 1717658725) hx hb hown (hts _ tw_1375) dX12_wordHere_61 ?_
            refine lv_topl (fun v61 e_v61 => ?_)
            have t_v61 : v61.toInt = 1717658725 := by rw [e_v61]; decide
            refine t_calli (va_runV (As := [.long v61]) (rest := []) ⟨hx, hb, hml, hown, hts⟩ (t_X12_isWord l dC dI tys κ B w_5 hw.2.2.2.2 a0 k_a0 v61 v52n (by omega) (by omega) f_a0_X12_8 v4q1 (by omega) (by omega) f_a0_X12_1 H.size) (cwV 1 hts (gUV tw_1273 tw_1275 ts_3_5 tw_13 tw_1276) rfl rfl rfl (by decide +kernel) ⟨(Nat.le_of_ble_eq_true rfl), (Nat.le_of_ble_eq_true rfl)⟩) ⟨cPre.blind, t_recv hw (ci := 12) k_a0 rfl rfl, cPre.use hw.2.1 hw.1 hw.2.2.1 hE⟩ rfl rfl hl.1 rfl (lv_room (Nat.le_of_ble_eq_true rfl)) dX12_wordHere_64 ⟨(Nat.le_of_ble_eq_true rfl), (Nat.le_of_ble_eq_true rfl)⟩) hw hA (fun _ _ h => h.2.2.1) (fun v64 w_6 H locs hp hw => ?_)
            obtain ⟨l_v64, h_v64, _, hm, ⟨v64n, l_v64n, h_v64n, f_a0_X12_8, y_v64⟩⟩ := hp
            have hM := hM.trans hm (by decide) (by decide)
            have f_a0_X12_1 := hm.1 _ _ _ _ f_a0_X12_1 (by decide)
            refine lv_if_eq (tgt := 72) hx hb dX12_wordHere_67 (by decide) (fun c_67 => ?_) (fun c_67 => ?_)
            · simp only [fa_lt, fa_le, fa_eq, li_0] at c_67
              refine lv_aload_n hx hb dX12_wordHere_72 rfl (lv_at hl 0 rfl) ?_
              refine lv_ldc2 (v := 7823731) hx hb hown (hts _ tw_1376) dX12_wordHere_73 ?_
              refine lv_topl (fun v73 e_v73 => ?_)
              have t_v73 : v73.toInt = 7823731 := by rw [e_v73]; decide
              refine t_calli (va_runV (As := [.long v73]) (rest := []) ⟨hx, hb, hml, hown, hts⟩ (t_X12_isWord l dC dI tys κ B w_6 hw.2.2.2.2 a0 k_a0 v73 v64n (by omega) (by omega) f_a0_X12_8 v4q1 (by omega) (by omega) f_a0_X12_1 H.size) (cwV 1 hts (gUV tw_1273 tw_1275 ts_3_5 tw_13 tw_1276) rfl rfl rfl (by decide +kernel) ⟨(Nat.le_of_ble_eq_true rfl), (Nat.le_of_ble_eq_true rfl)⟩) ⟨cPre.blind, t_recv hw (ci := 12) k_a0 rfl rfl, cPre.use hw.2.1 hw.1 hw.2.2.1 hE⟩ rfl rfl hl.1 rfl (lv_room (Nat.le_of_ble_eq_true rfl)) dX12_wordHere_76 ⟨(Nat.le_of_ble_eq_true rfl), (Nat.le_of_ble_eq_true rfl)⟩) hw hA (fun _ _ h => h.2.2.1) (fun v76 w_7 H locs hp hw => ?_)
              obtain ⟨l_v76, h_v76, _, hm, ⟨v76n, l_v76n, h_v76n, f_a0_X12_8, y_v76⟩⟩ := hp
              have hM := hM.trans hm (by decide) (by decide)
              have f_a0_X12_1 := hm.1 _ _ _ _ f_a0_X12_1 (by decide)
              refine lv_if_eq (tgt := 85) hx hb dX12_wordHere_79 (by decide) (fun c_79 => ?_) (fun c_79 => ?_)
              · simp only [fa_lt, fa_le, fa_eq, li_0] at c_79
                refine lv_aload_n hx hb dX12_wordHere_85 rfl (lv_at hl 0 rfl) ?_
                refine lv_ldc2 (v := 1935764837) hx hb hown (hts _ tw_1377) dX12_wordHere_86 ?_
                refine lv_topl (fun v86 e_v86 => ?_)
                have t_v86 : v86.toInt = 1935764837 := by rw [e_v86]; decide
                refine t_calli (va_runV (As := [.long v86]) (rest := []) ⟨hx, hb, hml, hown, hts⟩ (t_X12_isWord l dC dI tys κ B w_7 hw.2.2.2.2 a0 k_a0 v86 v76n (by omega) (by omega) f_a0_X12_8 v4q1 (by omega) (by omega) f_a0_X12_1 H.size) (cwV 1 hts (gUV tw_1273 tw_1275 ts_3_5 tw_13 tw_1276) rfl rfl rfl (by decide +kernel) ⟨(Nat.le_of_ble_eq_true rfl), (Nat.le_of_ble_eq_true rfl)⟩) ⟨cPre.blind, t_recv hw (ci := 12) k_a0 rfl rfl, cPre.use hw.2.1 hw.1 hw.2.2.1 hE⟩ rfl rfl hl.1 rfl (lv_room (Nat.le_of_ble_eq_true rfl)) dX12_wordHere_89 ⟨(Nat.le_of_ble_eq_true rfl), (Nat.le_of_ble_eq_true rfl)⟩) hw hA (fun _ _ h => h.2.2.1) (fun v89 w_8 H locs hp hw => ?_)
                obtain ⟨l_v89, h_v89, _, hm, ⟨v89n, l_v89n, h_v89n, f_a0_X12_8, y_v89⟩⟩ := hp
                have hM := hM.trans hm (by decide) (by decide)
                have f_a0_X12_1 := hm.1 _ _ _ _ f_a0_X12_1 (by decide)
                refine lv_if_eq (tgt := 98) hx hb dX12_wordHere_92 (by decide) (fun c_92 => ?_) (fun c_92 => ?_)
                · simp only [fa_lt, fa_le, fa_eq, li_0] at c_92
                  refine lv_aload_n hx hb dX12_wordHere_98 rfl (lv_at hl 0 rfl) ?_
                  refine lv_ldc2 (v := 6578553) hx hb hown (hts _ tw_1378) dX12_wordHere_99 ?_
                  refine lv_topl (fun v99 e_v99 => ?_)
                  have t_v99 : v99.toInt = 6578553 := by rw [e_v99]; decide
                  refine t_calli (va_runV (As := [.long v99]) (rest := []) ⟨hx, hb, hml, hown, hts⟩ (t_X12_isWord l dC dI tys κ B w_8 hw.2.2.2.2 a0 k_a0 v99 v89n (by omega) (by omega) f_a0_X12_8 v4q1 (by omega) (by omega) f_a0_X12_1 H.size) (cwV 1 hts (gUV tw_1273 tw_1275 ts_3_5 tw_13 tw_1276) rfl rfl rfl (by decide +kernel) ⟨(Nat.le_of_ble_eq_true rfl), (Nat.le_of_ble_eq_true rfl)⟩) ⟨cPre.blind, t_recv hw (ci := 12) k_a0 rfl rfl, cPre.use hw.2.1 hw.1 hw.2.2.1 hE⟩ rfl rfl hl.1 rfl (lv_room (Nat.le_of_ble_eq_true rfl)) dX12_wordHere_102 ⟨(Nat.le_of_ble_eq_true rfl), (Nat.le_of_ble_eq_true rfl)⟩) hw hA (fun _ _ h => h.2.2.1) (fun v102 w_9 H locs hp hw => ?_)
                  obtain ⟨l_v102, h_v102, _, hm, ⟨v102n, l_v102n, h_v102n, f_a0_X12_8, y_v102⟩⟩ := hp
                  have hM := hM.trans hm (by decide) (by decide)
                  have f_a0_X12_1 := hm.1 _ _ _ _ f_a0_X12_1 (by decide)
                  refine lv_if_eq (tgt := 111) hx hb dX12_wordHere_105 (by decide) (fun c_105 => ?_) (fun c_105 => ?_)
                  · simp only [fa_lt, fa_le, fa_eq, li_0] at c_105
                    refine lv_aload_n hx hb dX12_wordHere_111 rfl (lv_at hl 0 rfl) ?_
                    refine lv_ldc2 (v := 426953241460) hx hb hown (hts _ tw_1379) dX12_wordHere_112 ?_
                    refine lv_topl (fun v112 e_v112 => ?_)
                    have t_v112 : v112.toInt = 426953241460 := by rw [e_v112]; decide
                    refine t_calli (va_runV (As := [.long v112]) (rest := []) ⟨hx, hb, hml, hown, hts⟩ (t_X12_isWord l dC dI tys κ B w_9 hw.2.2.2.2 a0 k_a0 v112 v102n (by omega) (by omega) f_a0_X12_8 v4q1 (by omega) (by omega) f_a0_X12_1 H.size) (cwV 1 hts (gUV tw_1273 tw_1275 ts_3_5 tw_13 tw_1276) rfl rfl rfl (by decide +kernel) ⟨(Nat.le_of_ble_eq_true rfl), (Nat.le_of_ble_eq_true rfl)⟩) ⟨cPre.blind, t_recv hw (ci := 12) k_a0 rfl rfl, cPre.use hw.2.1 hw.1 hw.2.2.1 hE⟩ rfl rfl hl.1 rfl (lv_room (Nat.le_of_ble_eq_true rfl)) dX12_wordHere_115 ⟨(Nat.le_of_ble_eq_true rfl), (Nat.le_of_ble_eq_true rfl)⟩) hw hA (fun _ _ h => h.2.2.1) (fun v115 w_10 H locs hp hw => ?_)
                    obtain ⟨l_v115, h_v115, _, hm, ⟨v115n, l_v115n, h_v115n, f_a0_X12_8, y_v115⟩⟩ := hp
                    have hM := hM.trans hm (by decide) (by decide)
                    have f_a0_X12_1 := hm.1 _ _ _ _ f_a0_X12_1 (by decide)
                    refine lv_if_eq (tgt := 126) hx hb dX12_wordHere_118 (by decide) (fun c_118 => ?_) (fun c_118 => ?_)
                    · simp only [fa_lt, fa_le, fa_eq, li_0] at c_118
                      refine lv_aload_n hx hb dX12_wordHere_126 rfl (lv_at hl 0 rfl) ?_
                      refine lv_ldc2 (v := 1651472755) hx hb hown (hts _ tw_1380) dX12_wordHere_127 ?_
                      refine lv_topl (fun v127 e_v127 => ?_)
                      have t_v127 : v127.toInt = 1651472755 := by rw [e_v127]; decide
                      refine t_calli (va_runV (As := [.long v127]) (rest := []) ⟨hx, hb, hml, hown, hts⟩ (t_X12_isWord l dC dI tys κ B w_10 hw.2.2.2.2 a0 k_a0 v127 v115n (by omega) (by omega) f_a0_X12_8 v4q1 (by omega) (by omega) f_a0_X12_1 H.size) (cwV 1 hts (gUV tw_1273 tw_1275 ts_3_5 tw_13 tw_1276) rfl rfl rfl (by decide +kernel) ⟨(Nat.le_of_ble_eq_true rfl), (Nat.le_of_ble_eq_true rfl)⟩) ⟨cPre.blind, t_recv hw (ci := 12) k_a0 rfl rfl, cPre.use hw.2.1 hw.1 hw.2.2.1 hE⟩ rfl rfl hl.1 rfl (lv_room (Nat.le_of_ble_eq_true rfl)) dX12_wordHere_130 ⟨(Nat.le_of_ble_eq_true rfl), (Nat.le_of_ble_eq_true rfl)⟩) hw hA (fun _ _ h => h.2.2.1) (fun v130 w_11 H locs hp hw => ?_)
                      obtain ⟨l_v130, h_v130, _, hm, ⟨v130n, l_v130n, h_v130n, f_a0_X12_8, y_v130⟩⟩ := hp
                      have hM := hM.trans hm (by decide) (by decide)
                      have f_a0_X12_1 := hm.1 _ _ _ _ f_a0_X12_1 (by decide)
                      refine lv_if_eq (tgt := 141) hx hb dX12_wordHere_133 (by decide) (fun c_133 => ?_) (fun c_133 => ?_)
                      · simp only [fa_lt, fa_le, fa_eq, li_0] at c_133
                        refine lv_iconst (v := (-1)) hx hb dX12_wordHere_141 (by decide) ?_
                        rw [hQ]
                        refine W.widen (k := 0) (n := 0) (Nat.le_refl _) (Nat.le_refl _) ?_
                        exact W.iret (v := (-1)) hx hb hr (fun t ht hW => ⟨⟨(-1), w_11, rfl, ⟨(by decide), (by decide), hw.2.2.2.2, hM⟩, by rw [ht]; exact hw.2.1, va_K.moved hW.alike hw.1, hw.2.2.1⟩, hw.2.2.2.1.F ht⟩) hw.2.2.2.1.2.2 dX12_wordHere_142
                      · simp only [fa_lt, fa_le, fa_eq, li_0] at c_133
                        refine lv_bipush (v := 10) hx hb dX12_wordHere_136 (by decide) ?_
                        refine lv_goto (tgt := 142) hx hb dX12_wordHere_138 (by decide) ?_
                        rw [hQ]
                        refine W.widen (k := 0) (n := 0) (Nat.le_refl _) (Nat.le_refl _) ?_
                        exact W.iret (v := 10) hx hb hr (fun t ht hW => ⟨⟨10, w_11, rfl, ⟨(by decide), (by decide), hw.2.2.2.2, hM⟩, by rw [ht]; exact hw.2.1, va_K.moved hW.alike hw.1, hw.2.2.1⟩, hw.2.2.2.1.F ht⟩) hw.2.2.2.1.2.2 dX12_wordHere_142
                    · simp only [fa_lt, fa_le, fa_eq, li_0] at c_118
                      refine lv_bipush (v := 9) hx hb dX12_wordHere_121 (by decide) ?_
                      refine lv_goto (tgt := 142) hx hb dX12_wordHere_123 (by decide) ?_
                      rw [hQ]
                      refine W.widen (k := 0) (n := 0) (Nat.le_refl _) (Nat.le_refl _) ?_
                      exact W.iret (v := 9) hx hb hr (fun t ht hW => ⟨⟨9, w_10, rfl, ⟨(by decide), (by decide), hw.2.2.2.2, hM⟩, by rw [ht]; exact hw.2.1, va_K.moved hW.alike hw.1, hw.2.2.1⟩, hw.2.2.2.1.F ht⟩) hw.2.2.2.1.2.2 dX12_wordHere_142
                  · simp only [fa_lt, fa_le, fa_eq, li_0] at c_105
                    refine lv_bipush (v := 8) hx hb dX12_wordHere_108 (by decide) ?_
                    rw [hQ]
                    refine W.widen (k := 0) (n := 0) (Nat.le_refl _) (Nat.le_refl _) ?_
                    exact W.iret (v := 8) hx hb hr (fun t ht hW => ⟨⟨8, w_9, rfl, ⟨(by decide), (by decide), hw.2.2.2.2, hM⟩, by rw [ht]; exact hw.2.1, va_K.moved hW.alike hw.1, hw.2.2.1⟩, hw.2.2.2.1.F ht⟩) hw.2.2.2.1.2.2 dX12_wordHere_110
                · simp only [fa_lt, fa_le, fa_eq, li_0] at c_92
                  refine lv_bipush (v := 7) hx hb dX12_wordHere_95 (by decide) ?_
                  rw [hQ]
                  refine W.widen (k := 0) (n := 0) (Nat.le_refl _) (Nat.le_refl _) ?_
                  exact W.iret (v := 7) hx hb hr (fun t ht hW => ⟨⟨7, w_8, rfl, ⟨(by decide), (by decide), hw.2.2.2.2, hM⟩, by rw [ht]; exact hw.2.1, va_K.moved hW.alike hw.1, hw.2.2.1⟩, hw.2.2.2.1.F ht⟩) hw.2.2.2.1.2.2 dX12_wordHere_97
              · simp only [fa_lt, fa_le, fa_eq, li_0] at c_79
                refine lv_bipush (v := 6) hx hb dX12_wordHere_82 (by decide) ?_
                rw [hQ]
                refine W.widen (k := 0) (n := 0) (Nat.le_refl _) (Nat.le_refl _) ?_
                exact W.iret (v := 6) hx hb hr (fun t ht hW => ⟨⟨6, w_7, rfl, ⟨(by decide), (by decide), hw.2.2.2.2, hM⟩, by rw [ht]; exact hw.2.1, va_K.moved hW.alike hw.1, hw.2.2.1⟩, hw.2.2.2.1.F ht⟩) hw.2.2.2.1.2.2 dX12_wordHere_84
            · simp only [fa_lt, fa_le, fa_eq, li_0] at c_67
              refine lv_iconst (v := 5) hx hb dX12_wordHere_70 (by decide) ?_
              rw [hQ]
              refine W.widen (k := 0) (n := 0) (Nat.le_refl _) (Nat.le_refl _) ?_
              exact W.iret (v := 5) hx hb hr (fun t ht hW => ⟨⟨5, w_6, rfl, ⟨(by decide), (by decide), hw.2.2.2.2, hM⟩, by rw [ht]; exact hw.2.1, va_K.moved hW.alike hw.1, hw.2.2.1⟩, hw.2.2.2.1.F ht⟩) hw.2.2.2.1.2.2 dX12_wordHere_71
          · simp only [fa_lt, fa_le, fa_eq, li_0] at c_55
            refine lv_iconst (v := 4) hx hb dX12_wordHere_58 (by decide) ?_
            rw [hQ]
            refine W.widen (k := 0) (n := 0) (Nat.le_refl _) (Nat.le_refl _) ?_
            exact W.iret (v := 4) hx hb hr (fun t ht hW => ⟨⟨4, w_5, rfl, ⟨(by decide), (by decide), hw.2.2.2.2, hM⟩, by rw [ht]; exact hw.2.1, va_K.moved hW.alike hw.1, hw.2.2.1⟩, hw.2.2.2.1.F ht⟩) hw.2.2.2.1.2.2 dX12_wordHere_59
        · simp only [fa_lt, fa_le, fa_eq, li_0] at c_43
          refine lv_iconst (v := 3) hx hb dX12_wordHere_46 (by decide) ?_
          rw [hQ]
          refine W.widen (k := 0) (n := 0) (Nat.le_refl _) (Nat.le_refl _) ?_
          exact W.iret (v := 3) hx hb hr (fun t ht hW => ⟨⟨3, w_4, rfl, ⟨(by decide), (by decide), hw.2.2.2.2, hM⟩, by rw [ht]; exact hw.2.1, va_K.moved hW.alike hw.1, hw.2.2.1⟩, hw.2.2.2.1.F ht⟩) hw.2.2.2.1.2.2 dX12_wordHere_47
      · simp only [fa_lt, fa_le, fa_eq, li_0] at c_31
        refine lv_iconst (v := 2) hx hb dX12_wordHere_34 (by decide) ?_
        rw [hQ]
        refine W.widen (k := 0) (n := 0) (Nat.le_refl _) (Nat.le_refl _) ?_
        exact W.iret (v := 2) hx hb hr (fun t ht hW => ⟨⟨2, w_3, rfl, ⟨(by decide), (by decide), hw.2.2.2.2, hM⟩, by rw [ht]; exact hw.2.1, va_K.moved hW.alike hw.1, hw.2.2.1⟩, hw.2.2.2.1.F ht⟩) hw.2.2.2.1.2.2 dX12_wordHere_35
    · simp only [fa_lt, fa_le, fa_eq, li_0] at c_19
      refine lv_iconst (v := 1) hx hb dX12_wordHere_22 (by decide) ?_
      rw [hQ]
      refine W.widen (k := 0) (n := 0) (Nat.le_refl _) (Nat.le_refl _) ?_
      exact W.iret (v := 1) hx hb hr (fun t ht hW => ⟨⟨1, w_2, rfl, ⟨(by decide), (by decide), hw.2.2.2.2, hM⟩, by rw [ht]; exact hw.2.1, va_K.moved hW.alike hw.1, hw.2.2.1⟩, hw.2.2.2.1.F ht⟩) hw.2.2.2.1.2.2 dX12_wordHere_23
  · simp only [fa_lt, fa_le, fa_eq, li_0] at c_7
    refine lv_iconst (v := 0) hx hb dX12_wordHere_10 (by decide) ?_
    rw [hQ]
    refine W.widen (k := 0) (n := 0) (Nat.le_refl _) (Nat.le_refl _) ?_
    exact W.iret (v := 0) hx hb hr (fun t ht hW => ⟨⟨0, w_1, rfl, ⟨(by decide), (by decide), hw.2.2.2.2, hM⟩, by rw [ht]; exact hw.2.1, va_K.moved hW.alike hw.1, hw.2.2.1⟩, hw.2.2.2.1.F ht⟩) hw.2.2.2.1.2.2 dX12_wordHere_11
