theorem tw_1240 : (Jvm.Cond.methodLink "BoyBishopLaw" (17 : Nat) ({ cls := "BoyBishopModel", name := "feed", desc := "(IIIII)I" } : Jvm.MethodName)) ∈ gT := gT_in (List.mem_append_right _ (List.mem_append_right _ (List.mem_append_right _ (List.mem_append_right _ (List.mem_append_right _ (List.mem_append_right _ (List.mem_append_left _ (List.mem_of_getElem? (i := 40) rfl)))))))) rfl
theorem tw_1241 : (Jvm.Cond.instanceMethod ({ cls := "BoyBishopModel", name := "feed", desc := "(IIIII)I" } : Jvm.MethodName)) ∈ gT := gT_in (List.mem_append_right _ (List.mem_append_right _ (List.mem_append_right _ (List.mem_append_right _ (List.mem_append_right _ (List.mem_append_right _ (List.mem_append_left _ (List.mem_of_getElem? (i := 41) rfl)))))))) rfl
theorem tw_1242 : (Jvm.Cond.selects "BoyBishopModel" ({ cls := "BoyBishopModel", name := "feed", desc := "(IIIII)I" } : Jvm.MethodName) ({ cls := "BoyBishopModel", name := "feed", desc := "(IIIII)I" } : Jvm.MethodName)) ∈ gT := gT_in (List.mem_append_right _ (List.mem_append_right _ (List.mem_append_right _ (List.mem_append_right _ (List.mem_append_right _ (List.mem_append_right _ (List.mem_append_left _ (List.mem_of_getElem? (i := 42) rfl)))))))) rfl
theorem tw_1243 : (Jvm.Cond.code ({ cls := "BoyBishopModel", name := "feed", desc := "(IIIII)I" } : Jvm.MethodName) prog_14_method_7_code (6 : Nat) (Option.some Jvm.ClassFile.FieldType.int)) ∈ gT := gT_in (List.mem_append_right _ (List.mem_append_right _ (List.mem_append_right _ (List.mem_append_right _ (List.mem_append_right _ (List.mem_append_right _ (List.mem_append_left _ (List.mem_of_getElem? (i := 43) rfl)))))))) rfl
theorem tw_1248 : (Jvm.Cond.methodLink "BoyBishopLaw" (22 : Nat) ({ cls := "BoyBishopModel", name := "end", desc := "(I)I" } : Jvm.MethodName)) ∈ gT := gT_in (List.mem_append_right _ (List.mem_append_right _ (List.mem_append_right _ (List.mem_append_right _ (List.mem_append_right _ (List.mem_append_right _ (List.mem_append_left _ (List.mem_of_getElem? (i := 48) rfl)))))))) rfl
theorem tw_1249 : (Jvm.Cond.instanceMethod ({ cls := "BoyBishopModel", name := "end", desc := "(I)I" } : Jvm.MethodName)) ∈ gT := gT_in (List.mem_append_right _ (List.mem_append_right _ (List.mem_append_right _ (List.mem_append_right _ (List.mem_append_right _ (List.mem_append_right _ (List.mem_append_left _ (List.mem_of_getElem? (i := 49) rfl)))))))) rfl
theorem tw_1250 : (Jvm.Cond.selects "BoyBishopModel" ({ cls := "BoyBishopModel", name := "end", desc := "(I)I" } : Jvm.MethodName) ({ cls := "BoyBishopModel", name := "end", desc := "(I)I" } : Jvm.MethodName)) ∈ gT := gT_in (List.mem_append_right _ (List.mem_append_right _ (List.mem_append_right _ (List.mem_append_right _ (List.mem_append_right _ (List.mem_append_right _ (List.mem_append_left _ (List.mem_of_getElem? (i := 50) rfl)))))))) rfl
theorem tw_1251 : (Jvm.Cond.code ({ cls := "BoyBishopModel", name := "end", desc := "(I)I" } : Jvm.MethodName) prog_14_method_8_code (2 : Nat) (Option.some Jvm.ClassFile.FieldType.int)) ∈ gT := gT_in (List.mem_append_right _ (List.mem_append_right _ (List.mem_append_right _ (List.mem_append_right _ (List.mem_append_right _ (List.mem_append_right _ (List.mem_append_left _ (List.mem_of_getElem? (i := 51) rfl)))))))) rfl
theorem tw_1252 : (Jvm.Cond.methodLink "BoyBishopLaw" (31 : Nat) ({ cls := "BoyBishopModel", name := "rule", desc := "()I" } : Jvm.MethodName)) ∈ gT := gT_in (List.mem_append_right _ (List.mem_append_right _ (List.mem_append_right _ (List.mem_append_right _ (List.mem_append_right _ (List.mem_append_right _ (List.mem_append_left _ (List.mem_of_getElem? (i := 52) rfl)))))))) rfl
theorem tw_1253 : (Jvm.Cond.instanceMethod ({ cls := "BoyBishopModel", name := "rule", desc := "()I" } : Jvm.MethodName)) ∈ gT := gT_in (List.mem_append_right _ (List.mem_append_right _ (List.mem_append_right _ (List.mem_append_right _ (List.mem_append_right _ (List.mem_append_right _ (List.mem_append_left _ (List.mem_of_getElem? (i := 53) rfl)))))))) rfl
theorem tw_1254 : (Jvm.Cond.selects "BoyBishopModel" ({ cls := "BoyBishopModel", name := "rule", desc := "()I" } : Jvm.MethodName) ({ cls := "BoyBishopModel", name := "rule", desc := "()I" } : Jvm.MethodName)) ∈ gT := gT_in (List.mem_append_right _ (List.mem_append_right _ (List.mem_append_right _ (List.mem_append_right _ (List.mem_append_right _ (List.mem_append_right _ (List.mem_append_left _ (List.mem_of_getElem? (i := 54) rfl)))))))) rfl
theorem tw_1255 : (Jvm.Cond.code ({ cls := "BoyBishopModel", name := "rule", desc := "()I" } : Jvm.MethodName) prog_14_method_44_code (1 : Nat) (Option.some Jvm.ClassFile.FieldType.int)) ∈ gT := gT_in (List.mem_append_right _ (List.mem_append_right _ (List.mem_append_right _ (List.mem_append_right _ (List.mem_append_right _ (List.mem_append_right _ (List.mem_append_left _ (List.mem_of_getElem? (i := 55) rfl)))))))) rfl
theorem tw_1420 : (Jvm.Cond.methodLink "BoyBishopLaw" (27 : Nat) ({ cls := "BoyBishopModel", name := "choir", desc := "()I" } : Jvm.MethodName)) ∈ gT := gT_in (List.mem_append_right _ (List.mem_append_right _ (List.mem_append_right _ (List.mem_append_right _ (List.mem_append_right _ (List.mem_append_right _ (List.mem_append_left _ (List.mem_of_getElem? (i := 220) rfl)))))))) rfl
theorem tw_1421 : (Jvm.Cond.instanceMethod ({ cls := "BoyBishopModel", name := "choir", desc := "()I" } : Jvm.MethodName)) ∈ gT := gT_in (List.mem_append_right _ (List.mem_append_right _ (List.mem_append_right _ (List.mem_append_right _ (List.mem_append_right _ (List.mem_append_right _ (List.mem_append_left _ (List.mem_of_getElem? (i := 221) rfl)))))))) rfl
theorem tw_1422 : (Jvm.Cond.selects "BoyBishopModel" ({ cls := "BoyBishopModel", name := "choir", desc := "()I" } : Jvm.MethodName) ({ cls := "BoyBishopModel", name := "choir", desc := "()I" } : Jvm.MethodName)) ∈ gT := gT_in (List.mem_append_right _ (List.mem_append_right _ (List.mem_append_right _ (List.mem_append_right _ (List.mem_append_right _ (List.mem_append_right _ (List.mem_append_left _ (List.mem_of_getElem? (i := 222) rfl)))))))) rfl
theorem tw_1423 : (Jvm.Cond.code ({ cls := "BoyBishopModel", name := "choir", desc := "()I" } : Jvm.MethodName) prog_14_method_45_code (2 : Nat) (Option.some Jvm.ClassFile.FieldType.int)) ∈ gT := gT_in (List.mem_append_right _ (List.mem_append_right _ (List.mem_append_right _ (List.mem_append_right _ (List.mem_append_right _ (List.mem_append_right _ (List.mem_append_left _ (List.mem_of_getElem? (i := 223) rfl)))))))) rfl
theorem tw_1436 : (Jvm.Cond.methodLink "BoyBishopLaw" (35 : Nat) ({ cls := "BoyBishopModel", name := "force", desc := "(I)I" } : Jvm.MethodName)) ∈ gT := gT_in (List.mem_append_right _ (List.mem_append_right _ (List.mem_append_right _ (List.mem_append_right _ (List.mem_append_right _ (List.mem_append_right _ (List.mem_append_left _ (List.mem_of_getElem? (i := 236) rfl)))))))) rfl
theorem tw_1437 : (Jvm.Cond.instanceMethod ({ cls := "BoyBishopModel", name := "force", desc := "(I)I" } : Jvm.MethodName)) ∈ gT := gT_in (List.mem_append_right _ (List.mem_append_right _ (List.mem_append_right _ (List.mem_append_right _ (List.mem_append_right _ (List.mem_append_right _ (List.mem_append_left _ (List.mem_of_getElem? (i := 237) rfl)))))))) rfl
theorem tw_1438 : (Jvm.Cond.selects "BoyBishopModel" ({ cls := "BoyBishopModel", name := "force", desc := "(I)I" } : Jvm.MethodName) ({ cls := "BoyBishopModel", name := "force", desc := "(I)I" } : Jvm.MethodName)) ∈ gT := gT_in (List.mem_append_right _ (List.mem_append_right _ (List.mem_append_right _ (List.mem_append_right _ (List.mem_append_right _ (List.mem_append_right _ (List.mem_append_left _ (List.mem_of_getElem? (i := 238) rfl)))))))) rfl
theorem tw_1439 : (Jvm.Cond.code ({ cls := "BoyBishopModel", name := "force", desc := "(I)I" } : Jvm.MethodName) prog_14_method_64_code (3 : Nat) (Option.some Jvm.ClassFile.FieldType.int)) ∈ gT := gT_in (List.mem_append_right _ (List.mem_append_right _ (List.mem_append_right _ (List.mem_append_right _ (List.mem_append_right _ (List.mem_append_right _ (List.mem_append_left _ (List.mem_of_getElem? (i := 239) rfl)))))))) rfl
theorem tw_1444 : (Jvm.Cond.methodLink "BoyBishopLaw" (40 : Nat) ({ cls := "BoyBishopModel", name := "boy", desc := "(II)I" } : Jvm.MethodName)) ∈ gT := gT_in (List.mem_append_right _ (List.mem_append_right _ (List.mem_append_right _ (List.mem_append_right _ (List.mem_append_right _ (List.mem_append_right _ (List.mem_append_right _ (List.mem_append_left _ (List.mem_of_getElem? (i := 4) rfl))))))))) rfl
theorem tw_1445 : (Jvm.Cond.instanceMethod ({ cls := "BoyBishopModel", name := "boy", desc := "(II)I" } : Jvm.MethodName)) ∈ gT := gT_in (List.mem_append_right _ (List.mem_append_right _ (List.mem_append_right _ (List.mem_append_right _ (List.mem_append_right _ (List.mem_append_right _ (List.mem_append_right _ (List.mem_append_left _ (List.mem_of_getElem? (i := 5) rfl))))))))) rfl
theorem tw_1446 : (Jvm.Cond.selects "BoyBishopModel" ({ cls := "BoyBishopModel", name := "boy", desc := "(II)I" } : Jvm.MethodName) ({ cls := "BoyBishopModel", name := "boy", desc := "(II)I" } : Jvm.MethodName)) ∈ gT := gT_in (List.mem_append_right _ (List.mem_append_right _ (List.mem_append_right _ (List.mem_append_right _ (List.mem_append_right _ (List.mem_append_right _ (List.mem_append_right _ (List.mem_append_left _ (List.mem_of_getElem? (i := 6) rfl))))))))) rfl
theorem tw_1447 : (Jvm.Cond.code ({ cls := "BoyBishopModel", name := "boy", desc := "(II)I" } : Jvm.MethodName) prog_14_method_65_code (3 : Nat) (Option.some Jvm.ClassFile.FieldType.int)) ∈ gT := gT_in (List.mem_append_right _ (List.mem_append_right _ (List.mem_append_right _ (List.mem_append_right _ (List.mem_append_right _ (List.mem_append_right _ (List.mem_append_right _ (List.mem_append_left _ (List.mem_of_getElem? (i := 7) rfl))))))))) rfl
theorem tw_1457 : (Jvm.Cond.methodLink "BoyBishopLaw" (44 : Nat) ({ cls := "BoyBishopModel", name := "likes", desc := "(II)I" } : Jvm.MethodName)) ∈ gT := gT_in (List.mem_append_right _ (List.mem_append_right _ (List.mem_append_right _ (List.mem_append_right _ (List.mem_append_right _ (List.mem_append_right _ (List.mem_append_right _ (List.mem_append_left _ (List.mem_of_getElem? (i := 17) rfl))))))))) rfl
theorem tw_1458 : (Jvm.Cond.instanceMethod ({ cls := "BoyBishopModel", name := "likes", desc := "(II)I" } : Jvm.MethodName)) ∈ gT := gT_in (List.mem_append_right _ (List.mem_append_right _ (List.mem_append_right _ (List.mem_append_right _ (List.mem_append_right _ (List.mem_append_right _ (List.mem_append_right _ (List.mem_append_left _ (List.mem_of_getElem? (i := 18) rfl))))))))) rfl
theorem tw_1459 : (Jvm.Cond.selects "BoyBishopModel" ({ cls := "BoyBishopModel", name := "likes", desc := "(II)I" } : Jvm.MethodName) ({ cls := "BoyBishopModel", name := "likes", desc := "(II)I" } : Jvm.MethodName)) ∈ gT := gT_in (List.mem_append_right _ (List.mem_append_right _ (List.mem_append_right _ (List.mem_append_right _ (List.mem_append_right _ (List.mem_append_right _ (List.mem_append_right _ (List.mem_append_left _ (List.mem_of_getElem? (i := 19) rfl))))))))) rfl
theorem tw_1460 : (Jvm.Cond.code ({ cls := "BoyBishopModel", name := "likes", desc := "(II)I" } : Jvm.MethodName) prog_14_method_66_code (3 : Nat) (Option.some Jvm.ClassFile.FieldType.int)) ∈ gT := gT_in (List.mem_append_right _ (List.mem_append_right _ (List.mem_append_right _ (List.mem_append_right _ (List.mem_append_right _ (List.mem_append_right _ (List.mem_append_right _ (List.mem_append_left _ (List.mem_of_getElem? (i := 20) rfl))))))))) rfl
theorem tw_1461 : (Jvm.Cond.methodLink "BoyBishopLaw" (48 : Nat) ({ cls := "BoyBishopModel", name := "canon", desc := "(II)I" } : Jvm.MethodName)) ∈ gT := gT_in (List.mem_append_right _ (List.mem_append_right _ (List.mem_append_right _ (List.mem_append_right _ (List.mem_append_right _ (List.mem_append_right _ (List.mem_append_right _ (List.mem_append_left _ (List.mem_of_getElem? (i := 21) rfl))))))))) rfl
theorem tw_1462 : (Jvm.Cond.instanceMethod ({ cls := "BoyBishopModel", name := "canon", desc := "(II)I" } : Jvm.MethodName)) ∈ gT := gT_in (List.mem_append_right _ (List.mem_append_right _ (List.mem_append_right _ (List.mem_append_right _ (List.mem_append_right _ (List.mem_append_right _ (List.mem_append_right _ (List.mem_append_left _ (List.mem_of_getElem? (i := 22) rfl))))))))) rfl
theorem tw_1463 : (Jvm.Cond.selects "BoyBishopModel" ({ cls := "BoyBishopModel", name := "canon", desc := "(II)I" } : Jvm.MethodName) ({ cls := "BoyBishopModel", name := "canon", desc := "(II)I" } : Jvm.MethodName)) ∈ gT := gT_in (List.mem_append_right _ (List.mem_append_right _ (List.mem_append_right _ (List.mem_append_right _ (List.mem_append_right _ (List.mem_append_right _ (List.mem_append_right _ (List.mem_append_left _ (List.mem_of_getElem? (i := 23) rfl))))))))) rfl
theorem tw_1464 : (Jvm.Cond.code ({ cls := "BoyBishopModel", name := "canon", desc := "(II)I" } : Jvm.MethodName) prog_14_method_67_code (3 : Nat) (Option.some Jvm.ClassFile.FieldType.int)) ∈ gT := gT_in (List.mem_append_right _ (List.mem_append_right _ (List.mem_append_right _ (List.mem_append_right _ (List.mem_append_right _ (List.mem_append_right _ (List.mem_append_right _ (List.mem_append_left _ (List.mem_of_getElem? (i := 24) rfl))))))))) rfl
theorem tw_1473 : (Jvm.Cond.methodLink "BoyBishopLaw" (52 : Nat) ({ cls := "BoyBishopModel", name := "farm", desc := "(II)I" } : Jvm.MethodName)) ∈ gT := gT_in (List.mem_append_right _ (List.mem_append_right _ (List.mem_append_right _ (List.mem_append_right _ (List.mem_append_right _ (List.mem_append_right _ (List.mem_append_right _ (List.mem_append_left _ (List.mem_of_getElem? (i := 33) rfl))))))))) rfl
theorem tw_1474 : (Jvm.Cond.instanceMethod ({ cls := "BoyBishopModel", name := "farm", desc := "(II)I" } : Jvm.MethodName)) ∈ gT := gT_in (List.mem_append_right _ (List.mem_append_right _ (List.mem_append_right _ (List.mem_append_right _ (List.mem_append_right _ (List.mem_append_right _ (List.mem_append_right _ (List.mem_append_left _ (List.mem_of_getElem? (i := 34) rfl))))))))) rfl
theorem tw_1475 : (Jvm.Cond.selects "BoyBishopModel" ({ cls := "BoyBishopModel", name := "farm", desc := "(II)I" } : Jvm.MethodName) ({ cls := "BoyBishopModel", name := "farm", desc := "(II)I" } : Jvm.MethodName)) ∈ gT := gT_in (List.mem_append_right _ (List.mem_append_right _ (List.mem_append_right _ (List.mem_append_right _ (List.mem_append_right _ (List.mem_append_right _ (List.mem_append_right _ (List.mem_append_left _ (List.mem_of_getElem? (i := 35) rfl))))))))) rfl
theorem tw_1476 : (Jvm.Cond.code ({ cls := "BoyBishopModel", name := "farm", desc := "(II)I" } : Jvm.MethodName) prog_14_method_68_code (3 : Nat) (Option.some Jvm.ClassFile.FieldType.int)) ∈ gT := gT_in (List.mem_append_right _ (List.mem_append_right _ (List.mem_append_right _ (List.mem_append_right _ (List.mem_append_right _ (List.mem_append_right _ (List.mem_append_right _ (List.mem_append_left _ (List.mem_of_getElem? (i := 36) rfl))))))))) rfl
theorem tw_1481 : (Jvm.Cond.methodLink "BoyBishopLaw" (76 : Nat) ({ cls := "BoyBishopModel", name := "undo", desc := "()I" } : Jvm.MethodName)) ∈ gT := gT_in (List.mem_append_right _ (List.mem_append_right _ (List.mem_append_right _ (List.mem_append_right _ (List.mem_append_right _ (List.mem_append_right _ (List.mem_append_right _ (List.mem_append_left _ (List.mem_of_getElem? (i := 41) rfl))))))))) rfl
theorem tw_1482 : (Jvm.Cond.instanceMethod ({ cls := "BoyBishopModel", name := "undo", desc := "()I" } : Jvm.MethodName)) ∈ gT := gT_in (List.mem_append_right _ (List.mem_append_right _ (List.mem_append_right _ (List.mem_append_right _ (List.mem_append_right _ (List.mem_append_right _ (List.mem_append_right _ (List.mem_append_left _ (List.mem_of_getElem? (i := 42) rfl))))))))) rfl
theorem tw_1483 : (Jvm.Cond.selects "BoyBishopModel" ({ cls := "BoyBishopModel", name := "undo", desc := "()I" } : Jvm.MethodName) ({ cls := "BoyBishopModel", name := "undo", desc := "()I" } : Jvm.MethodName)) ∈ gT := gT_in (List.mem_append_right _ (List.mem_append_right _ (List.mem_append_right _ (List.mem_append_right _ (List.mem_append_right _ (List.mem_append_right _ (List.mem_append_right _ (List.mem_append_left _ (List.mem_of_getElem? (i := 43) rfl))))))))) rfl
theorem tw_1484 : (Jvm.Cond.code ({ cls := "BoyBishopModel", name := "undo", desc := "()I" } : Jvm.MethodName) prog_14_method_81_code (2 : Nat) (Option.some Jvm.ClassFile.FieldType.int)) ∈ gT := gT_in (List.mem_append_right _ (List.mem_append_right _ (List.mem_append_right _ (List.mem_append_right _ (List.mem_append_right _ (List.mem_append_right _ (List.mem_append_right _ (List.mem_append_left _ (List.mem_of_getElem? (i := 44) rfl))))))))) rfl
theorem tw_1485 : (Jvm.Cond.methodLink "BoyBishopLaw" (56 : Nat) ({ cls := "BoyBishopModel", name := "day", desc := "()I" } : Jvm.MethodName)) ∈ gT := gT_in (List.mem_append_right _ (List.mem_append_right _ (List.mem_append_right _ (List.mem_append_right _ (List.mem_append_right _ (List.mem_append_right _ (List.mem_append_right _ (List.mem_append_left _ (List.mem_of_getElem? (i := 45) rfl))))))))) rfl
theorem tw_1486 : (Jvm.Cond.instanceMethod ({ cls := "BoyBishopModel", name := "day", desc := "()I" } : Jvm.MethodName)) ∈ gT := gT_in (List.mem_append_right _ (List.mem_append_right _ (List.mem_append_right _ (List.mem_append_right _ (List.mem_append_right _ (List.mem_append_right _ (List.mem_append_right _ (List.mem_append_left _ (List.mem_of_getElem? (i := 46) rfl))))))))) rfl
theorem tw_1487 : (Jvm.Cond.selects "BoyBishopModel" ({ cls := "BoyBishopModel", name := "day", desc := "()I" } : Jvm.MethodName) ({ cls := "BoyBishopModel", name := "day", desc := "()I" } : Jvm.MethodName)) ∈ gT := gT_in (List.mem_append_right _ (List.mem_append_right _ (List.mem_append_right _ (List.mem_append_right _ (List.mem_append_right _ (List.mem_append_right _ (List.mem_append_right _ (List.mem_append_left _ (List.mem_of_getElem? (i := 47) rfl))))))))) rfl
theorem tw_1488 : (Jvm.Cond.code ({ cls := "BoyBishopModel", name := "day", desc := "()I" } : Jvm.MethodName) prog_14_method_82_code (1 : Nat) (Option.some Jvm.ClassFile.FieldType.int)) ∈ gT := gT_in (List.mem_append_right _ (List.mem_append_right _ (List.mem_append_right _ (List.mem_append_right _ (List.mem_append_right _ (List.mem_append_right _ (List.mem_append_right _ (List.mem_append_left _ (List.mem_of_getElem? (i := 48) rfl))))))))) rfl
theorem tw_1575 : (Jvm.Cond.methodLink "BoyBishopLaw" (60 : Nat) ({ cls := "BoyBishopModel", name := "visit", desc := "(I)I" } : Jvm.MethodName)) ∈ gT := gT_in (List.mem_append_right _ (List.mem_append_right _ (List.mem_append_right _ (List.mem_append_right _ (List.mem_append_right _ (List.mem_append_right _ (List.mem_append_right _ (List.mem_append_left _ (List.mem_of_getElem? (i := 135) rfl))))))))) rfl
theorem tw_1576 : (Jvm.Cond.instanceMethod ({ cls := "BoyBishopModel", name := "visit", desc := "(I)I" } : Jvm.MethodName)) ∈ gT := gT_in (List.mem_append_right _ (List.mem_append_right _ (List.mem_append_right _ (List.mem_append_right _ (List.mem_append_right _ (List.mem_append_right _ (List.mem_append_right _ (List.mem_append_left _ (List.mem_of_getElem? (i := 136) rfl))))))))) rfl
theorem tw_1577 : (Jvm.Cond.selects "BoyBishopModel" ({ cls := "BoyBishopModel", name := "visit", desc := "(I)I" } : Jvm.MethodName) ({ cls := "BoyBishopModel", name := "visit", desc := "(I)I" } : Jvm.MethodName)) ∈ gT := gT_in (List.mem_append_right _ (List.mem_append_right _ (List.mem_append_right _ (List.mem_append_right _ (List.mem_append_right _ (List.mem_append_right _ (List.mem_append_right _ (List.mem_append_left _ (List.mem_of_getElem? (i := 137) rfl))))))))) rfl
theorem tw_1578 : (Jvm.Cond.code ({ cls := "BoyBishopModel", name := "visit", desc := "(I)I" } : Jvm.MethodName) prog_14_method_83_code (4 : Nat) (Option.some Jvm.ClassFile.FieldType.int)) ∈ gT := gT_in (List.mem_append_right _ (List.mem_append_right _ (List.mem_append_right _ (List.mem_append_right _ (List.mem_append_right _ (List.mem_append_right _ (List.mem_append_right _ (List.mem_append_left _ (List.mem_of_getElem? (i := 138) rfl))))))))) rfl
theorem tw_1579 : (Jvm.Cond.methodLink "BoyBishopLaw" (64 : Nat) ({ cls := "BoyBishopModel", name := "promise", desc := "(II)I" } : Jvm.MethodName)) ∈ gT := gT_in (List.mem_append_right _ (List.mem_append_right _ (List.mem_append_right _ (List.mem_append_right _ (List.mem_append_right _ (List.mem_append_right _ (List.mem_append_right _ (List.mem_append_left _ (List.mem_of_getElem? (i := 139) rfl))))))))) rfl
theorem tw_1580 : (Jvm.Cond.instanceMethod ({ cls := "BoyBishopModel", name := "promise", desc := "(II)I" } : Jvm.MethodName)) ∈ gT := gT_in (List.mem_append_right _ (List.mem_append_right _ (List.mem_append_right _ (List.mem_append_right _ (List.mem_append_right _ (List.mem_append_right _ (List.mem_append_right _ (List.mem_append_left _ (List.mem_of_getElem? (i := 140) rfl))))))))) rfl
theorem tw_1581 : (Jvm.Cond.selects "BoyBishopModel" ({ cls := "BoyBishopModel", name := "promise", desc := "(II)I" } : Jvm.MethodName) ({ cls := "BoyBishopModel", name := "promise", desc := "(II)I" } : Jvm.MethodName)) ∈ gT := gT_in (List.mem_append_right _ (List.mem_append_right _ (List.mem_append_right _ (List.mem_append_right _ (List.mem_append_right _ (List.mem_append_right _ (List.mem_append_right _ (List.mem_append_left _ (List.mem_of_getElem? (i := 141) rfl))))))))) rfl
theorem tw_1582 : (Jvm.Cond.code ({ cls := "BoyBishopModel", name := "promise", desc := "(II)I" } : Jvm.MethodName) prog_14_method_84_code (4 : Nat) (Option.some Jvm.ClassFile.FieldType.int)) ∈ gT := gT_in (List.mem_append_right _ (List.mem_append_right _ (List.mem_append_right _ (List.mem_append_right _ (List.mem_append_right _ (List.mem_append_right _ (List.mem_append_right _ (List.mem_append_left _ (List.mem_of_getElem? (i := 142) rfl))))))))) rfl
theorem tw_1584 : (Jvm.Cond.methodLink "BoyBishopLaw" (68 : Nat) ({ cls := "BoyBishopModel", name := "give", desc := "(II)I" } : Jvm.MethodName)) ∈ gT := gT_in (List.mem_append_right _ (List.mem_append_right _ (List.mem_append_right _ (List.mem_append_right _ (List.mem_append_right _ (List.mem_append_right _ (List.mem_append_right _ (List.mem_append_left _ (List.mem_of_getElem? (i := 144) rfl))))))))) rfl
theorem tw_1585 : (Jvm.Cond.instanceMethod ({ cls := "BoyBishopModel", name := "give", desc := "(II)I" } : Jvm.MethodName)) ∈ gT := gT_in (List.mem_append_right _ (List.mem_append_right _ (List.mem_append_right _ (List.mem_append_right _ (List.mem_append_right _ (List.mem_append_right _ (List.mem_append_right _ (List.mem_append_left _ (List.mem_of_getElem? (i := 145) rfl))))))))) rfl
theorem tw_1586 : (Jvm.Cond.selects "BoyBishopModel" ({ cls := "BoyBishopModel", name := "give", desc := "(II)I" } : Jvm.MethodName) ({ cls := "BoyBishopModel", name := "give", desc := "(II)I" } : Jvm.MethodName)) ∈ gT := gT_in (List.mem_append_right _ (List.mem_append_right _ (List.mem_append_right _ (List.mem_append_right _ (List.mem_append_right _ (List.mem_append_right _ (List.mem_append_right _ (List.mem_append_left _ (List.mem_of_getElem? (i := 146) rfl))))))))) rfl
theorem tw_1587 : (Jvm.Cond.code ({ cls := "BoyBishopModel", name := "give", desc := "(II)I" } : Jvm.MethodName) prog_14_method_85_code (3 : Nat) (Option.some Jvm.ClassFile.FieldType.int)) ∈ gT := gT_in (List.mem_append_right _ (List.mem_append_right _ (List.mem_append_right _ (List.mem_append_right _ (List.mem_append_right _ (List.mem_append_right _ (List.mem_append_right _ (List.mem_append_left _ (List.mem_of_getElem? (i := 147) rfl))))))))) rfl
theorem tw_1588 : (Jvm.Cond.methodLink "BoyBishopLaw" (72 : Nat) ({ cls := "BoyBishopModel", name := "breaks", desc := "(I)I" } : Jvm.MethodName)) ∈ gT := gT_in (List.mem_append_right _ (List.mem_append_right _ (List.mem_append_right _ (List.mem_append_right _ (List.mem_append_right _ (List.mem_append_right _ (List.mem_append_right _ (List.mem_append_left _ (List.mem_of_getElem? (i := 148) rfl))))))))) rfl
theorem tw_1589 : (Jvm.Cond.instanceMethod ({ cls := "BoyBishopModel", name := "breaks", desc := "(I)I" } : Jvm.MethodName)) ∈ gT := gT_in (List.mem_append_right _ (List.mem_append_right _ (List.mem_append_right _ (List.mem_append_right _ (List.mem_append_right _ (List.mem_append_right _ (List.mem_append_right _ (List.mem_append_left _ (List.mem_of_getElem? (i := 149) rfl))))))))) rfl
theorem tw_1590 : (Jvm.Cond.selects "BoyBishopModel" ({ cls := "BoyBishopModel", name := "breaks", desc := "(I)I" } : Jvm.MethodName) ({ cls := "BoyBishopModel", name := "breaks", desc := "(I)I" } : Jvm.MethodName)) ∈ gT := gT_in (List.mem_append_right _ (List.mem_append_right _ (List.mem_append_right _ (List.mem_append_right _ (List.mem_append_right _ (List.mem_append_right _ (List.mem_append_right _ (List.mem_append_left _ (List.mem_of_getElem? (i := 150) rfl))))))))) rfl
theorem tw_1591 : (Jvm.Cond.code ({ cls := "BoyBishopModel", name := "breaks", desc := "(I)I" } : Jvm.MethodName) prog_14_method_86_code (3 : Nat) (Option.some Jvm.ClassFile.FieldType.int)) ∈ gT := gT_in (List.mem_append_right _ (List.mem_append_right _ (List.mem_append_right _ (List.mem_append_right _ (List.mem_append_right _ (List.mem_append_right _ (List.mem_append_right _ (List.mem_append_left _ (List.mem_of_getElem? (i := 151) rfl))))))))) rfl
theorem tw_1592 : (Jvm.Cond.methodLink "BoyBishopLaw" (81 : Nat) ({ cls := "BoyBishopModel", name := "ahead", desc := "(III)I" } : Jvm.MethodName)) ∈ gT := gT_in (List.mem_append_right _ (List.mem_append_right _ (List.mem_append_right _ (List.mem_append_right _ (List.mem_append_right _ (List.mem_append_right _ (List.mem_append_right _ (List.mem_append_left _ (List.mem_of_getElem? (i := 152) rfl))))))))) rfl
theorem tw_1593 : (Jvm.Cond.instanceMethod ({ cls := "BoyBishopModel", name := "ahead", desc := "(III)I" } : Jvm.MethodName)) ∈ gT := gT_in (List.mem_append_right _ (List.mem_append_right _ (List.mem_append_right _ (List.mem_append_right _ (List.mem_append_right _ (List.mem_append_right _ (List.mem_append_right _ (List.mem_append_left _ (List.mem_of_getElem? (i := 153) rfl))))))))) rfl
theorem tw_1594 : (Jvm.Cond.selects "BoyBishopModel" ({ cls := "BoyBishopModel", name := "ahead", desc := "(III)I" } : Jvm.MethodName) ({ cls := "BoyBishopModel", name := "ahead", desc := "(III)I" } : Jvm.MethodName)) ∈ gT := gT_in (List.mem_append_right _ (List.mem_append_right _ (List.mem_append_right _ (List.mem_append_right _ (List.mem_append_right _ (List.mem_append_right _ (List.mem_append_right _ (List.mem_append_left _ (List.mem_of_getElem? (i := 154) rfl))))))))) rfl
theorem tw_1595 : (Jvm.Cond.code ({ cls := "BoyBishopModel", name := "ahead", desc := "(III)I" } : Jvm.MethodName) prog_14_method_89_code (5 : Nat) (Option.some Jvm.ClassFile.FieldType.int)) ∈ gT := gT_in (List.mem_append_right _ (List.mem_append_right _ (List.mem_append_right _ (List.mem_append_right _ (List.mem_append_right _ (List.mem_append_right _ (List.mem_append_right _ (List.mem_append_left _ (List.mem_of_getElem? (i := 155) rfl))))))))) rfl
theorem tw_460 : (Jvm.Cond.methodLink "BoyBishopLaw" (13 : Nat) ({ cls := "BoyBishop", name := "feed", desc := "(IIIII)I" } : Jvm.MethodName)) ∈ gT := gT_in (List.mem_append_right _ (List.mem_append_right _ (List.mem_append_left _ (List.mem_of_getElem? (i := 220) rfl)))) rfl
theorem tw_461 : (Jvm.Cond.instanceMethod ({ cls := "BoyBishop", name := "feed", desc := "(IIIII)I" } : Jvm.MethodName)) ∈ gT := gT_in (List.mem_append_right _ (List.mem_append_right _ (List.mem_append_left _ (List.mem_of_getElem? (i := 221) rfl)))) rfl
theorem tw_462 : (Jvm.Cond.selects "BoyBishop" ({ cls := "BoyBishop", name := "feed", desc := "(IIIII)I" } : Jvm.MethodName) ({ cls := "BoyBishop", name := "feed", desc := "(IIIII)I" } : Jvm.MethodName)) ∈ gT := gT_in (List.mem_append_right _ (List.mem_append_right _ (List.mem_append_left _ (List.mem_of_getElem? (i := 222) rfl)))) rfl
theorem tw_463 : (Jvm.Cond.code ({ cls := "BoyBishop", name := "feed", desc := "(IIIII)I" } : Jvm.MethodName) prog_1_method_2_code (6 : Nat) (Option.some Jvm.ClassFile.FieldType.int)) ∈ gT := gT_in (List.mem_append_right _ (List.mem_append_right _ (List.mem_append_left _ (List.mem_of_getElem? (i := 223) rfl)))) rfl
theorem tw_472 : (Jvm.Cond.methodLink "BoyBishopLaw" (18 : Nat) ({ cls := "BoyBishop", name := "end", desc := "(I)I" } : Jvm.MethodName)) ∈ gT := gT_in (List.mem_append_right _ (List.mem_append_right _ (List.mem_append_left _ (List.mem_of_getElem? (i := 232) rfl)))) rfl
theorem tw_473 : (Jvm.Cond.instanceMethod ({ cls := "BoyBishop", name := "end", desc := "(I)I" } : Jvm.MethodName)) ∈ gT := gT_in (List.mem_append_right _ (List.mem_append_right _ (List.mem_append_left _ (List.mem_of_getElem? (i := 233) rfl)))) rfl
theorem tw_474 : (Jvm.Cond.selects "BoyBishop" ({ cls := "BoyBishop", name := "end", desc := "(I)I" } : Jvm.MethodName) ({ cls := "BoyBishop", name := "end", desc := "(I)I" } : Jvm.MethodName)) ∈ gT := gT_in (List.mem_append_right _ (List.mem_append_right _ (List.mem_append_left _ (List.mem_of_getElem? (i := 234) rfl)))) rfl
theorem tw_475 : (Jvm.Cond.code ({ cls := "BoyBishop", name := "end", desc := "(I)I" } : Jvm.MethodName) prog_1_method_3_code (2 : Nat) (Option.some Jvm.ClassFile.FieldType.int)) ∈ gT := gT_in (List.mem_append_right _ (List.mem_append_right _ (List.mem_append_left _ (List.mem_of_getElem? (i := 235) rfl)))) rfl
theorem tw_476 : (Jvm.Cond.methodLink "BoyBishopLaw" (23 : Nat) ({ cls := "BoyBishop", name := "choir", desc := "()I" } : Jvm.MethodName)) ∈ gT := gT_in (List.mem_append_right _ (List.mem_append_right _ (List.mem_append_left _ (List.mem_of_getElem? (i := 236) rfl)))) rfl
theorem tw_477 : (Jvm.Cond.instanceMethod ({ cls := "BoyBishop", name := "choir", desc := "()I" } : Jvm.MethodName)) ∈ gT := gT_in (List.mem_append_right _ (List.mem_append_right _ (List.mem_append_left _ (List.mem_of_getElem? (i := 237) rfl)))) rfl
theorem tw_478 : (Jvm.Cond.selects "BoyBishop" ({ cls := "BoyBishop", name := "choir", desc := "()I" } : Jvm.MethodName) ({ cls := "BoyBishop", name := "choir", desc := "()I" } : Jvm.MethodName)) ∈ gT := gT_in (List.mem_append_right _ (List.mem_append_right _ (List.mem_append_left _ (List.mem_of_getElem? (i := 238) rfl)))) rfl
theorem tw_479 : (Jvm.Cond.code ({ cls := "BoyBishop", name := "choir", desc := "()I" } : Jvm.MethodName) prog_1_method_4_code (2 : Nat) (Option.some Jvm.ClassFile.FieldType.int)) ∈ gT := gT_in (List.mem_append_right _ (List.mem_append_right _ (List.mem_append_left _ (List.mem_of_getElem? (i := 239) rfl)))) rfl
theorem tw_629 : (Jvm.Cond.methodLink "BoyBishopLaw" (28 : Nat) ({ cls := "BoyBishop", name := "rule", desc := "()I" } : Jvm.MethodName)) ∈ gT := gT_in (List.mem_append_right _ (List.mem_append_right _ (List.mem_append_right _ (List.mem_append_left _ (List.mem_of_getElem? (i := 149) rfl))))) rfl
theorem tw_630 : (Jvm.Cond.instanceMethod ({ cls := "BoyBishop", name := "rule", desc := "()I" } : Jvm.MethodName)) ∈ gT := gT_in (List.mem_append_right _ (List.mem_append_right _ (List.mem_append_right _ (List.mem_append_left _ (List.mem_of_getElem? (i := 150) rfl))))) rfl
theorem tw_631 : (Jvm.Cond.selects "BoyBishop" ({ cls := "BoyBishop", name := "rule", desc := "()I" } : Jvm.MethodName) ({ cls := "BoyBishop", name := "rule", desc := "()I" } : Jvm.MethodName)) ∈ gT := gT_in (List.mem_append_right _ (List.mem_append_right _ (List.mem_append_right _ (List.mem_append_left _ (List.mem_of_getElem? (i := 151) rfl))))) rfl
theorem tw_632 : (Jvm.Cond.code ({ cls := "BoyBishop", name := "rule", desc := "()I" } : Jvm.MethodName) prog_1_method_5_code (1 : Nat) (Option.some Jvm.ClassFile.FieldType.int)) ∈ gT := gT_in (List.mem_append_right _ (List.mem_append_right _ (List.mem_append_right _ (List.mem_append_left _ (List.mem_of_getElem? (i := 152) rfl))))) rfl
theorem tw_702 : (Jvm.Cond.methodLink "BoyBishopLaw" (32 : Nat) ({ cls := "BoyBishop", name := "force", desc := "(I)I" } : Jvm.MethodName)) ∈ gT := gT_in (List.mem_append_right _ (List.mem_append_right _ (List.mem_append_right _ (List.mem_append_left _ (List.mem_of_getElem? (i := 222) rfl))))) rfl
theorem tw_703 : (Jvm.Cond.instanceMethod ({ cls := "BoyBishop", name := "force", desc := "(I)I" } : Jvm.MethodName)) ∈ gT := gT_in (List.mem_append_right _ (List.mem_append_right _ (List.mem_append_right _ (List.mem_append_left _ (List.mem_of_getElem? (i := 223) rfl))))) rfl
theorem tw_704 : (Jvm.Cond.selects "BoyBishop" ({ cls := "BoyBishop", name := "force", desc := "(I)I" } : Jvm.MethodName) ({ cls := "BoyBishop", name := "force", desc := "(I)I" } : Jvm.MethodName)) ∈ gT := gT_in (List.mem_append_right _ (List.mem_append_right _ (List.mem_append_right _ (List.mem_append_left _ (List.mem_of_getElem? (i := 224) rfl))))) rfl
theorem tw_705 : (Jvm.Cond.code ({ cls := "BoyBishop", name := "force", desc := "(I)I" } : Jvm.MethodName) prog_1_method_6_code (3 : Nat) (Option.some Jvm.ClassFile.FieldType.int)) ∈ gT := gT_in (List.mem_append_right _ (List.mem_append_right _ (List.mem_append_right _ (List.mem_append_left _ (List.mem_of_getElem? (i := 225) rfl))))) rfl
theorem tw_706 : (Jvm.Cond.methodLink "BoyBishopLaw" (36 : Nat) ({ cls := "BoyBishop", name := "boy", desc := "(II)I" } : Jvm.MethodName)) ∈ gT := gT_in (List.mem_append_right _ (List.mem_append_right _ (List.mem_append_right _ (List.mem_append_left _ (List.mem_of_getElem? (i := 226) rfl))))) rfl
theorem tw_707 : (Jvm.Cond.instanceMethod ({ cls := "BoyBishop", name := "boy", desc := "(II)I" } : Jvm.MethodName)) ∈ gT := gT_in (List.mem_append_right _ (List.mem_append_right _ (List.mem_append_right _ (List.mem_append_left _ (List.mem_of_getElem? (i := 227) rfl))))) rfl
theorem tw_708 : (Jvm.Cond.selects "BoyBishop" ({ cls := "BoyBishop", name := "boy", desc := "(II)I" } : Jvm.MethodName) ({ cls := "BoyBishop", name := "boy", desc := "(II)I" } : Jvm.MethodName)) ∈ gT := gT_in (List.mem_append_right _ (List.mem_append_right _ (List.mem_append_right _ (List.mem_append_left _ (List.mem_of_getElem? (i := 228) rfl))))) rfl
theorem tw_709 : (Jvm.Cond.code ({ cls := "BoyBishop", name := "boy", desc := "(II)I" } : Jvm.MethodName) prog_1_method_7_code (3 : Nat) (Option.some Jvm.ClassFile.FieldType.int)) ∈ gT := gT_in (List.mem_append_right _ (List.mem_append_right _ (List.mem_append_right _ (List.mem_append_left _ (List.mem_of_getElem? (i := 229) rfl))))) rfl
theorem tw_714 : (Jvm.Cond.methodLink "BoyBishopLaw" (41 : Nat) ({ cls := "BoyBishop", name := "likes", desc := "(II)I" } : Jvm.MethodName)) ∈ gT := gT_in (List.mem_append_right _ (List.mem_append_right _ (List.mem_append_right _ (List.mem_append_left _ (List.mem_of_getElem? (i := 234) rfl))))) rfl
theorem tw_715 : (Jvm.Cond.instanceMethod ({ cls := "BoyBishop", name := "likes", desc := "(II)I" } : Jvm.MethodName)) ∈ gT := gT_in (List.mem_append_right _ (List.mem_append_right _ (List.mem_append_right _ (List.mem_append_left _ (List.mem_of_getElem? (i := 235) rfl))))) rfl
theorem tw_716 : (Jvm.Cond.selects "BoyBishop" ({ cls := "BoyBishop", name := "likes", desc := "(II)I" } : Jvm.MethodName) ({ cls := "BoyBishop", name := "likes", desc := "(II)I" } : Jvm.MethodName)) ∈ gT := gT_in (List.mem_append_right _ (List.mem_append_right _ (List.mem_append_right _ (List.mem_append_left _ (List.mem_of_getElem? (i := 236) rfl))))) rfl
theorem tw_717 : (Jvm.Cond.code ({ cls := "BoyBishop", name := "likes", desc := "(II)I" } : Jvm.MethodName) prog_1_method_8_code (3 : Nat) (Option.some Jvm.ClassFile.FieldType.int)) ∈ gT := gT_in (List.mem_append_right _ (List.mem_append_right _ (List.mem_append_right _ (List.mem_append_left _ (List.mem_of_getElem? (i := 237) rfl))))) rfl
theorem tw_718 : (Jvm.Cond.methodLink "BoyBishopLaw" (45 : Nat) ({ cls := "BoyBishop", name := "canon", desc := "(II)I" } : Jvm.MethodName)) ∈ gT := gT_in (List.mem_append_right _ (List.mem_append_right _ (List.mem_append_right _ (List.mem_append_left _ (List.mem_of_getElem? (i := 238) rfl))))) rfl
theorem tw_719 : (Jvm.Cond.instanceMethod ({ cls := "BoyBishop", name := "canon", desc := "(II)I" } : Jvm.MethodName)) ∈ gT := gT_in (List.mem_append_right _ (List.mem_append_right _ (List.mem_append_right _ (List.mem_append_left _ (List.mem_of_getElem? (i := 239) rfl))))) rfl
theorem tw_720 : (Jvm.Cond.selects "BoyBishop" ({ cls := "BoyBishop", name := "canon", desc := "(II)I" } : Jvm.MethodName) ({ cls := "BoyBishop", name := "canon", desc := "(II)I" } : Jvm.MethodName)) ∈ gT := gT_in (List.mem_append_right _ (List.mem_append_right _ (List.mem_append_right _ (List.mem_append_right _ (List.mem_append_left _ (List.mem_of_getElem? (i := 0) rfl)))))) rfl
theorem tw_721 : (Jvm.Cond.code ({ cls := "BoyBishop", name := "canon", desc := "(II)I" } : Jvm.MethodName) prog_1_method_9_code (3 : Nat) (Option.some Jvm.ClassFile.FieldType.int)) ∈ gT := gT_in (List.mem_append_right _ (List.mem_append_right _ (List.mem_append_right _ (List.mem_append_right _ (List.mem_append_left _ (List.mem_of_getElem? (i := 1) rfl)))))) rfl
theorem tw_726 : (Jvm.Cond.methodLink "BoyBishopLaw" (49 : Nat) ({ cls := "BoyBishop", name := "farm", desc := "(II)I" } : Jvm.MethodName)) ∈ gT := gT_in (List.mem_append_right _ (List.mem_append_right _ (List.mem_append_right _ (List.mem_append_right _ (List.mem_append_left _ (List.mem_of_getElem? (i := 6) rfl)))))) rfl
theorem tw_727 : (Jvm.Cond.instanceMethod ({ cls := "BoyBishop", name := "farm", desc := "(II)I" } : Jvm.MethodName)) ∈ gT := gT_in (List.mem_append_right _ (List.mem_append_right _ (List.mem_append_right _ (List.mem_append_right _ (List.mem_append_left _ (List.mem_of_getElem? (i := 7) rfl)))))) rfl
theorem tw_728 : (Jvm.Cond.selects "BoyBishop" ({ cls := "BoyBishop", name := "farm", desc := "(II)I" } : Jvm.MethodName) ({ cls := "BoyBishop", name := "farm", desc := "(II)I" } : Jvm.MethodName)) ∈ gT := gT_in (List.mem_append_right _ (List.mem_append_right _ (List.mem_append_right _ (List.mem_append_right _ (List.mem_append_left _ (List.mem_of_getElem? (i := 8) rfl)))))) rfl
theorem tw_729 : (Jvm.Cond.code ({ cls := "BoyBishop", name := "farm", desc := "(II)I" } : Jvm.MethodName) prog_1_method_10_code (3 : Nat) (Option.some Jvm.ClassFile.FieldType.int)) ∈ gT := gT_in (List.mem_append_right _ (List.mem_append_right _ (List.mem_append_right _ (List.mem_append_right _ (List.mem_append_left _ (List.mem_of_getElem? (i := 9) rfl)))))) rfl
theorem tw_743 : (Jvm.Cond.methodLink "BoyBishopLaw" (53 : Nat) ({ cls := "BoyBishop", name := "day", desc := "()I" } : Jvm.MethodName)) ∈ gT := gT_in (List.mem_append_right _ (List.mem_append_right _ (List.mem_append_right _ (List.mem_append_right _ (List.mem_append_left _ (List.mem_of_getElem? (i := 23) rfl)))))) rfl
theorem tw_744 : (Jvm.Cond.instanceMethod ({ cls := "BoyBishop", name := "day", desc := "()I" } : Jvm.MethodName)) ∈ gT := gT_in (List.mem_append_right _ (List.mem_append_right _ (List.mem_append_right _ (List.mem_append_right _ (List.mem_append_left _ (List.mem_of_getElem? (i := 24) rfl)))))) rfl
theorem tw_745 : (Jvm.Cond.selects "BoyBishop" ({ cls := "BoyBishop", name := "day", desc := "()I" } : Jvm.MethodName) ({ cls := "BoyBishop", name := "day", desc := "()I" } : Jvm.MethodName)) ∈ gT := gT_in (List.mem_append_right _ (List.mem_append_right _ (List.mem_append_right _ (List.mem_append_right _ (List.mem_append_left _ (List.mem_of_getElem? (i := 25) rfl)))))) rfl
theorem tw_746 : (Jvm.Cond.code ({ cls := "BoyBishop", name := "day", desc := "()I" } : Jvm.MethodName) prog_1_method_12_code (1 : Nat) (Option.some Jvm.ClassFile.FieldType.int)) ∈ gT := gT_in (List.mem_append_right _ (List.mem_append_right _ (List.mem_append_right _ (List.mem_append_right _ (List.mem_append_left _ (List.mem_of_getElem? (i := 26) rfl)))))) rfl
theorem tw_841 : (Jvm.Cond.methodLink "BoyBishopLaw" (57 : Nat) ({ cls := "BoyBishop", name := "visit", desc := "(I)I" } : Jvm.MethodName)) ∈ gT := gT_in (List.mem_append_right _ (List.mem_append_right _ (List.mem_append_right _ (List.mem_append_right _ (List.mem_append_left _ (List.mem_of_getElem? (i := 121) rfl)))))) rfl
theorem tw_842 : (Jvm.Cond.instanceMethod ({ cls := "BoyBishop", name := "visit", desc := "(I)I" } : Jvm.MethodName)) ∈ gT := gT_in (List.mem_append_right _ (List.mem_append_right _ (List.mem_append_right _ (List.mem_append_right _ (List.mem_append_left _ (List.mem_of_getElem? (i := 122) rfl)))))) rfl
theorem tw_843 : (Jvm.Cond.selects "BoyBishop" ({ cls := "BoyBishop", name := "visit", desc := "(I)I" } : Jvm.MethodName) ({ cls := "BoyBishop", name := "visit", desc := "(I)I" } : Jvm.MethodName)) ∈ gT := gT_in (List.mem_append_right _ (List.mem_append_right _ (List.mem_append_right _ (List.mem_append_right _ (List.mem_append_left _ (List.mem_of_getElem? (i := 123) rfl)))))) rfl
theorem tw_844 : (Jvm.Cond.code ({ cls := "BoyBishop", name := "visit", desc := "(I)I" } : Jvm.MethodName) prog_1_method_13_code (2 : Nat) (Option.some Jvm.ClassFile.FieldType.int)) ∈ gT := gT_in (List.mem_append_right _ (List.mem_append_right _ (List.mem_append_right _ (List.mem_append_right _ (List.mem_append_left _ (List.mem_of_getElem? (i := 124) rfl)))))) rfl
theorem tw_862 : (Jvm.Cond.methodLink "BoyBishopLaw" (61 : Nat) ({ cls := "BoyBishop", name := "promise", desc := "(II)I" } : Jvm.MethodName)) ∈ gT := gT_in (List.mem_append_right _ (List.mem_append_right _ (List.mem_append_right _ (List.mem_append_right _ (List.mem_append_left _ (List.mem_of_getElem? (i := 142) rfl)))))) rfl
theorem tw_863 : (Jvm.Cond.instanceMethod ({ cls := "BoyBishop", name := "promise", desc := "(II)I" } : Jvm.MethodName)) ∈ gT := gT_in (List.mem_append_right _ (List.mem_append_right _ (List.mem_append_right _ (List.mem_append_right _ (List.mem_append_left _ (List.mem_of_getElem? (i := 143) rfl)))))) rfl
theorem tw_864 : (Jvm.Cond.selects "BoyBishop" ({ cls := "BoyBishop", name := "promise", desc := "(II)I" } : Jvm.MethodName) ({ cls := "BoyBishop", name := "promise", desc := "(II)I" } : Jvm.MethodName)) ∈ gT := gT_in (List.mem_append_right _ (List.mem_append_right _ (List.mem_append_right _ (List.mem_append_right _ (List.mem_append_left _ (List.mem_of_getElem? (i := 144) rfl)))))) rfl
theorem tw_865 : (Jvm.Cond.code ({ cls := "BoyBishop", name := "promise", desc := "(II)I" } : Jvm.MethodName) prog_1_method_15_code (4 : Nat) (Option.some Jvm.ClassFile.FieldType.int)) ∈ gT := gT_in (List.mem_append_right _ (List.mem_append_right _ (List.mem_append_right _ (List.mem_append_right _ (List.mem_append_left _ (List.mem_of_getElem? (i := 145) rfl)))))) rfl
theorem tw_866 : (Jvm.Cond.methodLink "BoyBishopLaw" (65 : Nat) ({ cls := "BoyBishop", name := "give", desc := "(II)I" } : Jvm.MethodName)) ∈ gT := gT_in (List.mem_append_right _ (List.mem_append_right _ (List.mem_append_right _ (List.mem_append_right _ (List.mem_append_left _ (List.mem_of_getElem? (i := 146) rfl)))))) rfl
theorem tw_867 : (Jvm.Cond.instanceMethod ({ cls := "BoyBishop", name := "give", desc := "(II)I" } : Jvm.MethodName)) ∈ gT := gT_in (List.mem_append_right _ (List.mem_append_right _ (List.mem_append_right _ (List.mem_append_right _ (List.mem_append_left _ (List.mem_of_getElem? (i := 147) rfl)))))) rfl
theorem tw_868 : (Jvm.Cond.selects "BoyBishop" ({ cls := "BoyBishop", name := "give", desc := "(II)I" } : Jvm.MethodName) ({ cls := "BoyBishop", name := "give", desc := "(II)I" } : Jvm.MethodName)) ∈ gT := gT_in (List.mem_append_right _ (List.mem_append_right _ (List.mem_append_right _ (List.mem_append_right _ (List.mem_append_left _ (List.mem_of_getElem? (i := 148) rfl)))))) rfl
theorem tw_869 : (Jvm.Cond.code ({ cls := "BoyBishop", name := "give", desc := "(II)I" } : Jvm.MethodName) prog_1_method_16_code (4 : Nat) (Option.some Jvm.ClassFile.FieldType.int)) ∈ gT := gT_in (List.mem_append_right _ (List.mem_append_right _ (List.mem_append_right _ (List.mem_append_right _ (List.mem_append_left _ (List.mem_of_getElem? (i := 149) rfl)))))) rfl
theorem tw_874 : (Jvm.Cond.methodLink "BoyBishopLaw" (69 : Nat) ({ cls := "BoyBishop", name := "breaks", desc := "(I)I" } : Jvm.MethodName)) ∈ gT := gT_in (List.mem_append_right _ (List.mem_append_right _ (List.mem_append_right _ (List.mem_append_right _ (List.mem_append_left _ (List.mem_of_getElem? (i := 154) rfl)))))) rfl
theorem tw_875 : (Jvm.Cond.instanceMethod ({ cls := "BoyBishop", name := "breaks", desc := "(I)I" } : Jvm.MethodName)) ∈ gT := gT_in (List.mem_append_right _ (List.mem_append_right _ (List.mem_append_right _ (List.mem_append_right _ (List.mem_append_left _ (List.mem_of_getElem? (i := 155) rfl)))))) rfl
theorem tw_876 : (Jvm.Cond.selects "BoyBishop" ({ cls := "BoyBishop", name := "breaks", desc := "(I)I" } : Jvm.MethodName) ({ cls := "BoyBishop", name := "breaks", desc := "(I)I" } : Jvm.MethodName)) ∈ gT := gT_in (List.mem_append_right _ (List.mem_append_right _ (List.mem_append_right _ (List.mem_append_right _ (List.mem_append_left _ (List.mem_of_getElem? (i := 156) rfl)))))) rfl
theorem tw_877 : (Jvm.Cond.code ({ cls := "BoyBishop", name := "breaks", desc := "(I)I" } : Jvm.MethodName) prog_1_method_17_code (3 : Nat) (Option.some Jvm.ClassFile.FieldType.int)) ∈ gT := gT_in (List.mem_append_right _ (List.mem_append_right _ (List.mem_append_right _ (List.mem_append_right _ (List.mem_append_left _ (List.mem_of_getElem? (i := 157) rfl)))))) rfl
theorem tw_882 : (Jvm.Cond.methodLink "BoyBishopLaw" (73 : Nat) ({ cls := "BoyBishop", name := "undo", desc := "()I" } : Jvm.MethodName)) ∈ gT := gT_in (List.mem_append_right _ (List.mem_append_right _ (List.mem_append_right _ (List.mem_append_right _ (List.mem_append_left _ (List.mem_of_getElem? (i := 162) rfl)))))) rfl
theorem tw_883 : (Jvm.Cond.instanceMethod ({ cls := "BoyBishop", name := "undo", desc := "()I" } : Jvm.MethodName)) ∈ gT := gT_in (List.mem_append_right _ (List.mem_append_right _ (List.mem_append_right _ (List.mem_append_right _ (List.mem_append_left _ (List.mem_of_getElem? (i := 163) rfl)))))) rfl
theorem tw_884 : (Jvm.Cond.selects "BoyBishop" ({ cls := "BoyBishop", name := "undo", desc := "()I" } : Jvm.MethodName) ({ cls := "BoyBishop", name := "undo", desc := "()I" } : Jvm.MethodName)) ∈ gT := gT_in (List.mem_append_right _ (List.mem_append_right _ (List.mem_append_right _ (List.mem_append_right _ (List.mem_append_left _ (List.mem_of_getElem? (i := 164) rfl)))))) rfl
theorem tw_885 : (Jvm.Cond.code ({ cls := "BoyBishop", name := "undo", desc := "()I" } : Jvm.MethodName) prog_1_method_18_code (1 : Nat) (Option.some Jvm.ClassFile.FieldType.int)) ∈ gT := gT_in (List.mem_append_right _ (List.mem_append_right _ (List.mem_append_right _ (List.mem_append_right _ (List.mem_append_left _ (List.mem_of_getElem? (i := 165) rfl)))))) rfl
theorem tw_890 : (Jvm.Cond.methodLink "BoyBishopLaw" (77 : Nat) ({ cls := "BoyBishop", name := "ahead", desc := "(III)I" } : Jvm.MethodName)) ∈ gT := gT_in (List.mem_append_right _ (List.mem_append_right _ (List.mem_append_right _ (List.mem_append_right _ (List.mem_append_left _ (List.mem_of_getElem? (i := 170) rfl)))))) rfl
theorem tw_891 : (Jvm.Cond.instanceMethod ({ cls := "BoyBishop", name := "ahead", desc := "(III)I" } : Jvm.MethodName)) ∈ gT := gT_in (List.mem_append_right _ (List.mem_append_right _ (List.mem_append_right _ (List.mem_append_right _ (List.mem_append_left _ (List.mem_of_getElem? (i := 171) rfl)))))) rfl
theorem tw_892 : (Jvm.Cond.selects "BoyBishop" ({ cls := "BoyBishop", name := "ahead", desc := "(III)I" } : Jvm.MethodName) ({ cls := "BoyBishop", name := "ahead", desc := "(III)I" } : Jvm.MethodName)) ∈ gT := gT_in (List.mem_append_right _ (List.mem_append_right _ (List.mem_append_right _ (List.mem_append_right _ (List.mem_append_left _ (List.mem_of_getElem? (i := 172) rfl)))))) rfl
theorem tw_893 : (Jvm.Cond.code ({ cls := "BoyBishop", name := "ahead", desc := "(III)I" } : Jvm.MethodName) prog_1_method_19_code (5 : Nat) (Option.some Jvm.ClassFile.FieldType.int)) ∈ gT := gT_in (List.mem_append_right _ (List.mem_append_right _ (List.mem_append_right _ (List.mem_append_right _ (List.mem_append_left _ (List.mem_of_getElem? (i := 173) rfl)))))) rfl
theorem dL_law_180 : decode cL_law 180 = .ok (.aload_n 1, 1) := by decide +kernel
theorem dL_law_181 : decode cL_law 181 = .ok (.aload_n 0, 1) := by decide +kernel
theorem dL_law_182 : decode cL_law 182 = .ok (.iload_n 3, 1) := by decide +kernel
theorem dL_law_183 : decode cL_law 183 = .ok (.iconst 1, 1) := by decide +kernel
theorem dL_law_184 : decode cL_law 184 = .ok (.iadd, 1) := by decide +kernel
theorem dL_law_185 : decode cL_law 185 = .ok (.iaload, 1) := by decide +kernel
theorem dL_law_186 : decode cL_law 186 = .ok (.aload_n 0, 1) := by decide +kernel
theorem dL_law_187 : decode cL_law 187 = .ok (.iload_n 3, 1) := by decide +kernel
theorem dL_law_188 : decode cL_law 188 = .ok (.iconst 2, 1) := by decide +kernel
theorem dL_law_189 : decode cL_law 189 = .ok (.iadd, 1) := by decide +kernel
theorem dL_law_190 : decode cL_law 190 = .ok (.iaload, 1) := by decide +kernel
theorem dL_law_191 : decode cL_law 191 = .ok (.aload_n 0, 1) := by decide +kernel
theorem dL_law_192 : decode cL_law 192 = .ok (.iload_n 3, 1) := by decide +kernel
theorem dL_law_193 : decode cL_law 193 = .ok (.iconst 3, 1) := by decide +kernel
theorem dL_law_194 : decode cL_law 194 = .ok (.iadd, 1) := by decide +kernel
theorem dL_law_195 : decode cL_law 195 = .ok (.iaload, 1) := by decide +kernel
theorem dL_law_196 : decode cL_law 196 = .ok (.aload_n 0, 1) := by decide +kernel
theorem dL_law_197 : decode cL_law 197 = .ok (.iload_n 3, 1) := by decide +kernel
theorem dL_law_198 : decode cL_law 198 = .ok (.iconst 4, 1) := by decide +kernel
theorem dL_law_199 : decode cL_law 199 = .ok (.iadd, 1) := by decide +kernel
theorem dL_law_200 : decode cL_law 200 = .ok (.iaload, 1) := by decide +kernel
theorem dL_law_201 : decode cL_law 201 = .ok (.aload_n 0, 1) := by decide +kernel
theorem dL_law_202 : decode cL_law 202 = .ok (.iload_n 3, 1) := by decide +kernel
theorem dL_law_203 : decode cL_law 203 = .ok (.iconst 5, 1) := by decide +kernel
theorem dL_law_204 : decode cL_law 204 = .ok (.iadd, 1) := by decide +kernel
theorem dL_law_205 : decode cL_law 205 = .ok (.iaload, 1) := by decide +kernel
theorem dL_law_206 : decode cL_law 206 = .ok (.invokevirtual 13, 3) := by decide +kernel
theorem dL_law_209 : decode cL_law 209 = .ok (.pop, 1) := by decide +kernel
theorem dL_law_210 : decode cL_law 210 = .ok (.aload_n 2, 1) := by decide +kernel
theorem dL_law_211 : decode cL_law 211 = .ok (.aload_n 0, 1) := by decide +kernel
theorem dL_law_212 : decode cL_law 212 = .ok (.iload_n 3, 1) := by decide +kernel
theorem dL_law_213 : decode cL_law 213 = .ok (.iconst 1, 1) := by decide +kernel
theorem dL_law_214 : decode cL_law 214 = .ok (.iadd, 1) := by decide +kernel
theorem dL_law_215 : decode cL_law 215 = .ok (.iaload, 1) := by decide +kernel
theorem dL_law_216 : decode cL_law 216 = .ok (.aload_n 0, 1) := by decide +kernel
theorem dL_law_217 : decode cL_law 217 = .ok (.iload_n 3, 1) := by decide +kernel
theorem dL_law_218 : decode cL_law 218 = .ok (.iconst 2, 1) := by decide +kernel
theorem dL_law_219 : decode cL_law 219 = .ok (.iadd, 1) := by decide +kernel
theorem dL_law_220 : decode cL_law 220 = .ok (.iaload, 1) := by decide +kernel
theorem dL_law_221 : decode cL_law 221 = .ok (.aload_n 0, 1) := by decide +kernel
theorem dL_law_222 : decode cL_law 222 = .ok (.iload_n 3, 1) := by decide +kernel
theorem dL_law_223 : decode cL_law 223 = .ok (.iconst 3, 1) := by decide +kernel
theorem dL_law_224 : decode cL_law 224 = .ok (.iadd, 1) := by decide +kernel
theorem dL_law_225 : decode cL_law 225 = .ok (.iaload, 1) := by decide +kernel
theorem dL_law_226 : decode cL_law 226 = .ok (.aload_n 0, 1) := by decide +kernel
theorem dL_law_227 : decode cL_law 227 = .ok (.iload_n 3, 1) := by decide +kernel
theorem dL_law_228 : decode cL_law 228 = .ok (.iconst 4, 1) := by decide +kernel
theorem dL_law_229 : decode cL_law 229 = .ok (.iadd, 1) := by decide +kernel
theorem dL_law_230 : decode cL_law 230 = .ok (.iaload, 1) := by decide +kernel
theorem dL_law_231 : decode cL_law 231 = .ok (.aload_n 0, 1) := by decide +kernel
theorem dL_law_232 : decode cL_law 232 = .ok (.iload_n 3, 1) := by decide +kernel
theorem dL_law_233 : decode cL_law 233 = .ok (.iconst 5, 1) := by decide +kernel
theorem dL_law_234 : decode cL_law 234 = .ok (.iadd, 1) := by decide +kernel
theorem dL_law_235 : decode cL_law 235 = .ok (.iaload, 1) := by decide +kernel
theorem dL_law_236 : decode cL_law 236 = .ok (.invokevirtual 17, 3) := by decide +kernel
theorem dL_law_239 : decode cL_law 239 = .ok (.pop, 1) := by decide +kernel
theorem dL_law_240 : decode cL_law 240 = .ok (.goto 879, 3) := by decide +kernel
theorem dL_law_243 : decode cL_law 243 = .ok (.aload_n 1, 1) := by decide +kernel
theorem dL_law_244 : decode cL_law 244 = .ok (.aload_n 0, 1) := by decide +kernel
theorem dL_law_245 : decode cL_law 245 = .ok (.iload_n 3, 1) := by decide +kernel
theorem dL_law_246 : decode cL_law 246 = .ok (.iconst 1, 1) := by decide +kernel
theorem dL_law_247 : decode cL_law 247 = .ok (.iadd, 1) := by decide +kernel
theorem dL_law_248 : decode cL_law 248 = .ok (.iaload, 1) := by decide +kernel
theorem dL_law_249 : decode cL_law 249 = .ok (.invokevirtual 18, 3) := by decide +kernel
theorem dL_law_252 : decode cL_law 252 = .ok (.pop, 1) := by decide +kernel
theorem dL_law_253 : decode cL_law 253 = .ok (.aload_n 2, 1) := by decide +kernel
theorem dL_law_254 : decode cL_law 254 = .ok (.aload_n 0, 1) := by decide +kernel
theorem dL_law_255 : decode cL_law 255 = .ok (.iload_n 3, 1) := by decide +kernel
theorem dL_law_256 : decode cL_law 256 = .ok (.iconst 1, 1) := by decide +kernel
theorem dL_law_257 : decode cL_law 257 = .ok (.iadd, 1) := by decide +kernel
theorem dL_law_258 : decode cL_law 258 = .ok (.iaload, 1) := by decide +kernel
theorem dL_law_259 : decode cL_law 259 = .ok (.invokevirtual 22, 3) := by decide +kernel
theorem dL_law_262 : decode cL_law 262 = .ok (.pop, 1) := by decide +kernel
theorem dL_law_263 : decode cL_law 263 = .ok (.goto 856, 3) := by decide +kernel
theorem dL_law_266 : decode cL_law 266 = .ok (.aload_n 1, 1) := by decide +kernel
theorem dL_law_267 : decode cL_law 267 = .ok (.invokevirtual 23, 3) := by decide +kernel
theorem dL_law_270 : decode cL_law 270 = .ok (.pop, 1) := by decide +kernel
theorem dL_law_271 : decode cL_law 271 = .ok (.aload_n 2, 1) := by decide +kernel
theorem dL_law_272 : decode cL_law 272 = .ok (.invokevirtual 27, 3) := by decide +kernel
theorem dL_law_275 : decode cL_law 275 = .ok (.pop, 1) := by decide +kernel
theorem dL_law_276 : decode cL_law 276 = .ok (.goto 843, 3) := by decide +kernel
theorem dL_law_279 : decode cL_law 279 = .ok (.aload_n 1, 1) := by decide +kernel
theorem dL_law_280 : decode cL_law 280 = .ok (.invokevirtual 28, 3) := by decide +kernel
theorem dL_law_283 : decode cL_law 283 = .ok (.pop, 1) := by decide +kernel
theorem dL_law_284 : decode cL_law 284 = .ok (.aload_n 2, 1) := by decide +kernel
theorem dL_law_285 : decode cL_law 285 = .ok (.invokevirtual 31, 3) := by decide +kernel
theorem dL_law_288 : decode cL_law 288 = .ok (.pop, 1) := by decide +kernel
theorem dL_law_289 : decode cL_law 289 = .ok (.goto 830, 3) := by decide +kernel
theorem dL_law_292 : decode cL_law 292 = .ok (.aload_n 1, 1) := by decide +kernel
theorem dL_law_293 : decode cL_law 293 = .ok (.aload_n 0, 1) := by decide +kernel
theorem dL_law_294 : decode cL_law 294 = .ok (.iload_n 3, 1) := by decide +kernel
theorem dL_law_295 : decode cL_law 295 = .ok (.iconst 1, 1) := by decide +kernel
theorem dL_law_296 : decode cL_law 296 = .ok (.iadd, 1) := by decide +kernel
theorem dL_law_297 : decode cL_law 297 = .ok (.iaload, 1) := by decide +kernel
theorem dL_law_298 : decode cL_law 298 = .ok (.invokevirtual 32, 3) := by decide +kernel
theorem dL_law_301 : decode cL_law 301 = .ok (.pop, 1) := by decide +kernel
theorem dL_law_302 : decode cL_law 302 = .ok (.aload_n 2, 1) := by decide +kernel
theorem dL_law_303 : decode cL_law 303 = .ok (.aload_n 0, 1) := by decide +kernel
theorem dL_law_304 : decode cL_law 304 = .ok (.iload_n 3, 1) := by decide +kernel
theorem dL_law_305 : decode cL_law 305 = .ok (.iconst 1, 1) := by decide +kernel
theorem dL_law_306 : decode cL_law 306 = .ok (.iadd, 1) := by decide +kernel
theorem dL_law_307 : decode cL_law 307 = .ok (.iaload, 1) := by decide +kernel
theorem dL_law_308 : decode cL_law 308 = .ok (.invokevirtual 35, 3) := by decide +kernel
theorem dL_law_311 : decode cL_law 311 = .ok (.pop, 1) := by decide +kernel
theorem dL_law_312 : decode cL_law 312 = .ok (.goto 807, 3) := by decide +kernel
theorem dL_law_315 : decode cL_law 315 = .ok (.aload_n 1, 1) := by decide +kernel
theorem dL_law_316 : decode cL_law 316 = .ok (.aload_n 0, 1) := by decide +kernel
theorem dL_law_317 : decode cL_law 317 = .ok (.iload_n 3, 1) := by decide +kernel
theorem dL_law_318 : decode cL_law 318 = .ok (.iconst 1, 1) := by decide +kernel
theorem dL_law_319 : decode cL_law 319 = .ok (.iadd, 1) := by decide +kernel
theorem dL_law_320 : decode cL_law 320 = .ok (.iaload, 1) := by decide +kernel
theorem dL_law_321 : decode cL_law 321 = .ok (.aload_n 0, 1) := by decide +kernel
theorem dL_law_322 : decode cL_law 322 = .ok (.iload_n 3, 1) := by decide +kernel
theorem dL_law_323 : decode cL_law 323 = .ok (.iconst 2, 1) := by decide +kernel
theorem dL_law_324 : decode cL_law 324 = .ok (.iadd, 1) := by decide +kernel
theorem dL_law_325 : decode cL_law 325 = .ok (.iaload, 1) := by decide +kernel
theorem dL_law_326 : decode cL_law 326 = .ok (.invokevirtual 36, 3) := by decide +kernel
theorem dL_law_329 : decode cL_law 329 = .ok (.pop, 1) := by decide +kernel
theorem dL_law_330 : decode cL_law 330 = .ok (.aload_n 2, 1) := by decide +kernel
theorem dL_law_331 : decode cL_law 331 = .ok (.aload_n 0, 1) := by decide +kernel
theorem dL_law_332 : decode cL_law 332 = .ok (.iload_n 3, 1) := by decide +kernel
theorem dL_law_333 : decode cL_law 333 = .ok (.iconst 1, 1) := by decide +kernel
theorem dL_law_334 : decode cL_law 334 = .ok (.iadd, 1) := by decide +kernel
theorem dL_law_335 : decode cL_law 335 = .ok (.iaload, 1) := by decide +kernel
theorem dL_law_336 : decode cL_law 336 = .ok (.aload_n 0, 1) := by decide +kernel
theorem dL_law_337 : decode cL_law 337 = .ok (.iload_n 3, 1) := by decide +kernel
theorem dL_law_338 : decode cL_law 338 = .ok (.iconst 2, 1) := by decide +kernel
theorem dL_law_339 : decode cL_law 339 = .ok (.iadd, 1) := by decide +kernel
theorem dL_law_340 : decode cL_law 340 = .ok (.iaload, 1) := by decide +kernel
theorem dL_law_341 : decode cL_law 341 = .ok (.invokevirtual 40, 3) := by decide +kernel
theorem dL_law_344 : decode cL_law 344 = .ok (.pop, 1) := by decide +kernel
theorem dL_law_345 : decode cL_law 345 = .ok (.goto 774, 3) := by decide +kernel
theorem dL_law_348 : decode cL_law 348 = .ok (.aload_n 1, 1) := by decide +kernel
theorem dL_law_349 : decode cL_law 349 = .ok (.aload_n 0, 1) := by decide +kernel
theorem dL_law_350 : decode cL_law 350 = .ok (.iload_n 3, 1) := by decide +kernel
theorem dL_law_351 : decode cL_law 351 = .ok (.iconst 1, 1) := by decide +kernel
theorem dL_law_352 : decode cL_law 352 = .ok (.iadd, 1) := by decide +kernel
theorem dL_law_353 : decode cL_law 353 = .ok (.iaload, 1) := by decide +kernel
theorem dL_law_354 : decode cL_law 354 = .ok (.aload_n 0, 1) := by decide +kernel
theorem dL_law_355 : decode cL_law 355 = .ok (.iload_n 3, 1) := by decide +kernel
theorem dL_law_356 : decode cL_law 356 = .ok (.iconst 2, 1) := by decide +kernel
theorem dL_law_357 : decode cL_law 357 = .ok (.iadd, 1) := by decide +kernel
theorem dL_law_358 : decode cL_law 358 = .ok (.iaload, 1) := by decide +kernel
theorem dL_law_359 : decode cL_law 359 = .ok (.invokevirtual 41, 3) := by decide +kernel
theorem dL_law_362 : decode cL_law 362 = .ok (.pop, 1) := by decide +kernel
theorem dL_law_363 : decode cL_law 363 = .ok (.aload_n 2, 1) := by decide +kernel
theorem dL_law_364 : decode cL_law 364 = .ok (.aload_n 0, 1) := by decide +kernel
theorem dL_law_365 : decode cL_law 365 = .ok (.iload_n 3, 1) := by decide +kernel
theorem dL_law_366 : decode cL_law 366 = .ok (.iconst 1, 1) := by decide +kernel
theorem dL_law_367 : decode cL_law 367 = .ok (.iadd, 1) := by decide +kernel
theorem dL_law_368 : decode cL_law 368 = .ok (.iaload, 1) := by decide +kernel
theorem dL_law_369 : decode cL_law 369 = .ok (.aload_n 0, 1) := by decide +kernel
theorem dL_law_370 : decode cL_law 370 = .ok (.iload_n 3, 1) := by decide +kernel
theorem dL_law_371 : decode cL_law 371 = .ok (.iconst 2, 1) := by decide +kernel
theorem dL_law_372 : decode cL_law 372 = .ok (.iadd, 1) := by decide +kernel
theorem dL_law_373 : decode cL_law 373 = .ok (.iaload, 1) := by decide +kernel
theorem dL_law_374 : decode cL_law 374 = .ok (.invokevirtual 44, 3) := by decide +kernel
theorem dL_law_377 : decode cL_law 377 = .ok (.pop, 1) := by decide +kernel
theorem dL_law_378 : decode cL_law 378 = .ok (.goto 741, 3) := by decide +kernel
theorem dL_law_381 : decode cL_law 381 = .ok (.aload_n 1, 1) := by decide +kernel
theorem dL_law_382 : decode cL_law 382 = .ok (.aload_n 0, 1) := by decide +kernel
theorem dL_law_383 : decode cL_law 383 = .ok (.iload_n 3, 1) := by decide +kernel
theorem dL_law_384 : decode cL_law 384 = .ok (.iconst 1, 1) := by decide +kernel
theorem dL_law_385 : decode cL_law 385 = .ok (.iadd, 1) := by decide +kernel
theorem dL_law_386 : decode cL_law 386 = .ok (.iaload, 1) := by decide +kernel
theorem dL_law_387 : decode cL_law 387 = .ok (.aload_n 0, 1) := by decide +kernel
theorem dL_law_388 : decode cL_law 388 = .ok (.iload_n 3, 1) := by decide +kernel
theorem dL_law_389 : decode cL_law 389 = .ok (.iconst 2, 1) := by decide +kernel
theorem dL_law_390 : decode cL_law 390 = .ok (.iadd, 1) := by decide +kernel
theorem dL_law_391 : decode cL_law 391 = .ok (.iaload, 1) := by decide +kernel
theorem dL_law_392 : decode cL_law 392 = .ok (.invokevirtual 45, 3) := by decide +kernel
theorem dL_law_395 : decode cL_law 395 = .ok (.pop, 1) := by decide +kernel
theorem dL_law_396 : decode cL_law 396 = .ok (.aload_n 2, 1) := by decide +kernel
theorem dL_law_397 : decode cL_law 397 = .ok (.aload_n 0, 1) := by decide +kernel
theorem dL_law_398 : decode cL_law 398 = .ok (.iload_n 3, 1) := by decide +kernel
theorem dL_law_399 : decode cL_law 399 = .ok (.iconst 1, 1) := by decide +kernel
theorem dL_law_400 : decode cL_law 400 = .ok (.iadd, 1) := by decide +kernel
theorem dL_law_401 : decode cL_law 401 = .ok (.iaload, 1) := by decide +kernel
theorem dL_law_402 : decode cL_law 402 = .ok (.aload_n 0, 1) := by decide +kernel
theorem dL_law_403 : decode cL_law 403 = .ok (.iload_n 3, 1) := by decide +kernel
theorem dL_law_404 : decode cL_law 404 = .ok (.iconst 2, 1) := by decide +kernel
theorem dL_law_405 : decode cL_law 405 = .ok (.iadd, 1) := by decide +kernel
theorem dL_law_406 : decode cL_law 406 = .ok (.iaload, 1) := by decide +kernel
theorem dL_law_407 : decode cL_law 407 = .ok (.invokevirtual 48, 3) := by decide +kernel
theorem dL_law_410 : decode cL_law 410 = .ok (.pop, 1) := by decide +kernel
theorem dL_law_411 : decode cL_law 411 = .ok (.goto 708, 3) := by decide +kernel
theorem dL_law_414 : decode cL_law 414 = .ok (.aload_n 1, 1) := by decide +kernel
theorem dL_law_415 : decode cL_law 415 = .ok (.aload_n 0, 1) := by decide +kernel
theorem dL_law_416 : decode cL_law 416 = .ok (.iload_n 3, 1) := by decide +kernel
theorem dL_law_417 : decode cL_law 417 = .ok (.iconst 1, 1) := by decide +kernel
theorem dL_law_418 : decode cL_law 418 = .ok (.iadd, 1) := by decide +kernel
theorem dL_law_419 : decode cL_law 419 = .ok (.iaload, 1) := by decide +kernel
theorem dL_law_420 : decode cL_law 420 = .ok (.aload_n 0, 1) := by decide +kernel
theorem dL_law_421 : decode cL_law 421 = .ok (.iload_n 3, 1) := by decide +kernel
theorem dL_law_422 : decode cL_law 422 = .ok (.iconst 2, 1) := by decide +kernel
theorem dL_law_423 : decode cL_law 423 = .ok (.iadd, 1) := by decide +kernel
theorem dL_law_424 : decode cL_law 424 = .ok (.iaload, 1) := by decide +kernel
theorem dL_law_425 : decode cL_law 425 = .ok (.invokevirtual 49, 3) := by decide +kernel
theorem dL_law_428 : decode cL_law 428 = .ok (.pop, 1) := by decide +kernel
theorem dL_law_429 : decode cL_law 429 = .ok (.aload_n 2, 1) := by decide +kernel
theorem dL_law_430 : decode cL_law 430 = .ok (.aload_n 0, 1) := by decide +kernel
theorem dL_law_431 : decode cL_law 431 = .ok (.iload_n 3, 1) := by decide +kernel
theorem dL_law_432 : decode cL_law 432 = .ok (.iconst 1, 1) := by decide +kernel
theorem dL_law_433 : decode cL_law 433 = .ok (.iadd, 1) := by decide +kernel
theorem dL_law_434 : decode cL_law 434 = .ok (.iaload, 1) := by decide +kernel
theorem dL_law_435 : decode cL_law 435 = .ok (.aload_n 0, 1) := by decide +kernel
theorem dL_law_436 : decode cL_law 436 = .ok (.iload_n 3, 1) := by decide +kernel
theorem dL_law_437 : decode cL_law 437 = .ok (.iconst 2, 1) := by decide +kernel
theorem dL_law_438 : decode cL_law 438 = .ok (.iadd, 1) := by decide +kernel
theorem dL_law_439 : decode cL_law 439 = .ok (.iaload, 1) := by decide +kernel
theorem dL_law_440 : decode cL_law 440 = .ok (.invokevirtual 52, 3) := by decide +kernel
theorem dL_law_443 : decode cL_law 443 = .ok (.pop, 1) := by decide +kernel
theorem dL_law_444 : decode cL_law 444 = .ok (.goto 675, 3) := by decide +kernel
theorem dL_law_447 : decode cL_law 447 = .ok (.aload_n 1, 1) := by decide +kernel
theorem dL_law_448 : decode cL_law 448 = .ok (.invokevirtual 53, 3) := by decide +kernel
theorem dL_law_451 : decode cL_law 451 = .ok (.pop, 1) := by decide +kernel
theorem dL_law_452 : decode cL_law 452 = .ok (.aload_n 2, 1) := by decide +kernel
theorem dL_law_453 : decode cL_law 453 = .ok (.invokevirtual 56, 3) := by decide +kernel
theorem dL_law_456 : decode cL_law 456 = .ok (.pop, 1) := by decide +kernel
theorem dL_law_457 : decode cL_law 457 = .ok (.goto 662, 3) := by decide +kernel
theorem dL_law_460 : decode cL_law 460 = .ok (.aload_n 1, 1) := by decide +kernel
theorem dL_law_461 : decode cL_law 461 = .ok (.aload_n 0, 1) := by decide +kernel
theorem dL_law_462 : decode cL_law 462 = .ok (.iload_n 3, 1) := by decide +kernel
theorem dL_law_463 : decode cL_law 463 = .ok (.iconst 1, 1) := by decide +kernel
theorem dL_law_464 : decode cL_law 464 = .ok (.iadd, 1) := by decide +kernel
theorem dL_law_465 : decode cL_law 465 = .ok (.iaload, 1) := by decide +kernel
theorem dL_law_466 : decode cL_law 466 = .ok (.invokevirtual 57, 3) := by decide +kernel
theorem dL_law_469 : decode cL_law 469 = .ok (.pop, 1) := by decide +kernel
theorem dL_law_470 : decode cL_law 470 = .ok (.aload_n 2, 1) := by decide +kernel
theorem dL_law_471 : decode cL_law 471 = .ok (.aload_n 0, 1) := by decide +kernel
theorem dL_law_472 : decode cL_law 472 = .ok (.iload_n 3, 1) := by decide +kernel
theorem dL_law_473 : decode cL_law 473 = .ok (.iconst 1, 1) := by decide +kernel
theorem dL_law_474 : decode cL_law 474 = .ok (.iadd, 1) := by decide +kernel
theorem dL_law_475 : decode cL_law 475 = .ok (.iaload, 1) := by decide +kernel
theorem dL_law_476 : decode cL_law 476 = .ok (.invokevirtual 60, 3) := by decide +kernel
theorem dL_law_479 : decode cL_law 479 = .ok (.pop, 1) := by decide +kernel
theorem dL_law_480 : decode cL_law 480 = .ok (.goto 639, 3) := by decide +kernel
theorem dL_law_483 : decode cL_law 483 = .ok (.aload_n 1, 1) := by decide +kernel
theorem dL_law_484 : decode cL_law 484 = .ok (.aload_n 0, 1) := by decide +kernel
theorem dL_law_485 : decode cL_law 485 = .ok (.iload_n 3, 1) := by decide +kernel
theorem dL_law_486 : decode cL_law 486 = .ok (.iconst 1, 1) := by decide +kernel
theorem dL_law_487 : decode cL_law 487 = .ok (.iadd, 1) := by decide +kernel
theorem dL_law_488 : decode cL_law 488 = .ok (.iaload, 1) := by decide +kernel
theorem dL_law_489 : decode cL_law 489 = .ok (.aload_n 0, 1) := by decide +kernel
theorem dL_law_490 : decode cL_law 490 = .ok (.iload_n 3, 1) := by decide +kernel
theorem dL_law_491 : decode cL_law 491 = .ok (.iconst 2, 1) := by decide +kernel
theorem dL_law_492 : decode cL_law 492 = .ok (.iadd, 1) := by decide +kernel
theorem dL_law_493 : decode cL_law 493 = .ok (.iaload, 1) := by decide +kernel
theorem dL_law_494 : decode cL_law 494 = .ok (.invokevirtual 61, 3) := by decide +kernel
theorem dL_law_497 : decode cL_law 497 = .ok (.pop, 1) := by decide +kernel
theorem dL_law_498 : decode cL_law 498 = .ok (.aload_n 2, 1) := by decide +kernel
theorem dL_law_499 : decode cL_law 499 = .ok (.aload_n 0, 1) := by decide +kernel
theorem dL_law_500 : decode cL_law 500 = .ok (.iload_n 3, 1) := by decide +kernel
theorem dL_law_501 : decode cL_law 501 = .ok (.iconst 1, 1) := by decide +kernel
theorem dL_law_502 : decode cL_law 502 = .ok (.iadd, 1) := by decide +kernel
theorem dL_law_503 : decode cL_law 503 = .ok (.iaload, 1) := by decide +kernel
theorem dL_law_504 : decode cL_law 504 = .ok (.aload_n 0, 1) := by decide +kernel
theorem dL_law_505 : decode cL_law 505 = .ok (.iload_n 3, 1) := by decide +kernel
theorem dL_law_506 : decode cL_law 506 = .ok (.iconst 2, 1) := by decide +kernel
theorem dL_law_507 : decode cL_law 507 = .ok (.iadd, 1) := by decide +kernel
theorem dL_law_508 : decode cL_law 508 = .ok (.iaload, 1) := by decide +kernel
theorem dL_law_509 : decode cL_law 509 = .ok (.invokevirtual 64, 3) := by decide +kernel
theorem dL_law_512 : decode cL_law 512 = .ok (.pop, 1) := by decide +kernel
theorem dL_law_513 : decode cL_law 513 = .ok (.goto 606, 3) := by decide +kernel
theorem dL_law_516 : decode cL_law 516 = .ok (.aload_n 1, 1) := by decide +kernel
theorem dL_law_517 : decode cL_law 517 = .ok (.aload_n 0, 1) := by decide +kernel
theorem dL_law_518 : decode cL_law 518 = .ok (.iload_n 3, 1) := by decide +kernel
theorem dL_law_519 : decode cL_law 519 = .ok (.iconst 1, 1) := by decide +kernel
theorem dL_law_520 : decode cL_law 520 = .ok (.iadd, 1) := by decide +kernel
theorem dL_law_521 : decode cL_law 521 = .ok (.iaload, 1) := by decide +kernel
theorem dL_law_522 : decode cL_law 522 = .ok (.aload_n 0, 1) := by decide +kernel
theorem dL_law_523 : decode cL_law 523 = .ok (.iload_n 3, 1) := by decide +kernel
theorem dL_law_524 : decode cL_law 524 = .ok (.iconst 2, 1) := by decide +kernel
theorem dL_law_525 : decode cL_law 525 = .ok (.iadd, 1) := by decide +kernel
theorem dL_law_526 : decode cL_law 526 = .ok (.iaload, 1) := by decide +kernel
theorem dL_law_527 : decode cL_law 527 = .ok (.invokevirtual 65, 3) := by decide +kernel
theorem dL_law_530 : decode cL_law 530 = .ok (.pop, 1) := by decide +kernel
theorem dL_law_531 : decode cL_law 531 = .ok (.aload_n 2, 1) := by decide +kernel
theorem dL_law_532 : decode cL_law 532 = .ok (.aload_n 0, 1) := by decide +kernel
theorem dL_law_533 : decode cL_law 533 = .ok (.iload_n 3, 1) := by decide +kernel
theorem dL_law_534 : decode cL_law 534 = .ok (.iconst 1, 1) := by decide +kernel
theorem dL_law_535 : decode cL_law 535 = .ok (.iadd, 1) := by decide +kernel
theorem dL_law_536 : decode cL_law 536 = .ok (.iaload, 1) := by decide +kernel
theorem dL_law_537 : decode cL_law 537 = .ok (.aload_n 0, 1) := by decide +kernel
theorem dL_law_538 : decode cL_law 538 = .ok (.iload_n 3, 1) := by decide +kernel
theorem dL_law_539 : decode cL_law 539 = .ok (.iconst 2, 1) := by decide +kernel
theorem dL_law_540 : decode cL_law 540 = .ok (.iadd, 1) := by decide +kernel
theorem dL_law_541 : decode cL_law 541 = .ok (.iaload, 1) := by decide +kernel
theorem dL_law_542 : decode cL_law 542 = .ok (.invokevirtual 68, 3) := by decide +kernel
theorem dL_law_545 : decode cL_law 545 = .ok (.pop, 1) := by decide +kernel
theorem dL_law_546 : decode cL_law 546 = .ok (.goto 573, 3) := by decide +kernel
theorem dL_law_549 : decode cL_law 549 = .ok (.aload_n 1, 1) := by decide +kernel
theorem dL_law_550 : decode cL_law 550 = .ok (.aload_n 0, 1) := by decide +kernel
theorem dL_law_551 : decode cL_law 551 = .ok (.iload_n 3, 1) := by decide +kernel
theorem dL_law_552 : decode cL_law 552 = .ok (.iconst 1, 1) := by decide +kernel
theorem dL_law_553 : decode cL_law 553 = .ok (.iadd, 1) := by decide +kernel
theorem dL_law_554 : decode cL_law 554 = .ok (.iaload, 1) := by decide +kernel
theorem dL_law_555 : decode cL_law 555 = .ok (.invokevirtual 69, 3) := by decide +kernel
theorem dL_law_558 : decode cL_law 558 = .ok (.pop, 1) := by decide +kernel
theorem dL_law_559 : decode cL_law 559 = .ok (.aload_n 2, 1) := by decide +kernel
theorem dL_law_560 : decode cL_law 560 = .ok (.aload_n 0, 1) := by decide +kernel
theorem dL_law_561 : decode cL_law 561 = .ok (.iload_n 3, 1) := by decide +kernel
theorem dL_law_562 : decode cL_law 562 = .ok (.iconst 1, 1) := by decide +kernel
theorem dL_law_563 : decode cL_law 563 = .ok (.iadd, 1) := by decide +kernel
theorem dL_law_564 : decode cL_law 564 = .ok (.iaload, 1) := by decide +kernel
theorem dL_law_565 : decode cL_law 565 = .ok (.invokevirtual 72, 3) := by decide +kernel
theorem dL_law_568 : decode cL_law 568 = .ok (.pop, 1) := by decide +kernel
theorem dL_law_569 : decode cL_law 569 = .ok (.goto 550, 3) := by decide +kernel
theorem dL_law_572 : decode cL_law 572 = .ok (.aload_n 1, 1) := by decide +kernel
theorem dL_law_573 : decode cL_law 573 = .ok (.invokevirtual 73, 3) := by decide +kernel
theorem dL_law_576 : decode cL_law 576 = .ok (.pop, 1) := by decide +kernel
theorem dL_law_577 : decode cL_law 577 = .ok (.aload_n 2, 1) := by decide +kernel
theorem dL_law_578 : decode cL_law 578 = .ok (.invokevirtual 76, 3) := by decide +kernel
theorem dL_law_581 : decode cL_law 581 = .ok (.pop, 1) := by decide +kernel
theorem dL_law_582 : decode cL_law 582 = .ok (.goto 537, 3) := by decide +kernel
theorem dL_law_585 : decode cL_law 585 = .ok (.aload_n 1, 1) := by decide +kernel
theorem dL_law_586 : decode cL_law 586 = .ok (.aload_n 0, 1) := by decide +kernel
theorem dL_law_587 : decode cL_law 587 = .ok (.iload_n 3, 1) := by decide +kernel
theorem dL_law_588 : decode cL_law 588 = .ok (.iconst 1, 1) := by decide +kernel
theorem dL_law_589 : decode cL_law 589 = .ok (.iadd, 1) := by decide +kernel
theorem dL_law_590 : decode cL_law 590 = .ok (.iaload, 1) := by decide +kernel
theorem dL_law_591 : decode cL_law 591 = .ok (.aload_n 0, 1) := by decide +kernel
theorem dL_law_592 : decode cL_law 592 = .ok (.iload_n 3, 1) := by decide +kernel
theorem dL_law_593 : decode cL_law 593 = .ok (.iconst 2, 1) := by decide +kernel
theorem dL_law_594 : decode cL_law 594 = .ok (.iadd, 1) := by decide +kernel
theorem dL_law_595 : decode cL_law 595 = .ok (.iaload, 1) := by decide +kernel
theorem dL_law_596 : decode cL_law 596 = .ok (.aload_n 0, 1) := by decide +kernel
theorem dL_law_597 : decode cL_law 597 = .ok (.iload_n 3, 1) := by decide +kernel
theorem dL_law_598 : decode cL_law 598 = .ok (.iconst 3, 1) := by decide +kernel
theorem dL_law_599 : decode cL_law 599 = .ok (.iadd, 1) := by decide +kernel
theorem dL_law_600 : decode cL_law 600 = .ok (.iaload, 1) := by decide +kernel
theorem dL_law_601 : decode cL_law 601 = .ok (.invokevirtual 77, 3) := by decide +kernel
theorem dL_law_604 : decode cL_law 604 = .ok (.pop, 1) := by decide +kernel
theorem dL_law_605 : decode cL_law 605 = .ok (.aload_n 2, 1) := by decide +kernel
theorem dL_law_606 : decode cL_law 606 = .ok (.aload_n 0, 1) := by decide +kernel
theorem dL_law_607 : decode cL_law 607 = .ok (.iload_n 3, 1) := by decide +kernel
theorem dL_law_608 : decode cL_law 608 = .ok (.iconst 1, 1) := by decide +kernel
theorem dL_law_609 : decode cL_law 609 = .ok (.iadd, 1) := by decide +kernel
theorem dL_law_610 : decode cL_law 610 = .ok (.iaload, 1) := by decide +kernel
theorem dL_law_611 : decode cL_law 611 = .ok (.aload_n 0, 1) := by decide +kernel
theorem dL_law_612 : decode cL_law 612 = .ok (.iload_n 3, 1) := by decide +kernel
theorem dL_law_613 : decode cL_law 613 = .ok (.iconst 2, 1) := by decide +kernel
theorem dL_law_614 : decode cL_law 614 = .ok (.iadd, 1) := by decide +kernel
theorem dL_law_615 : decode cL_law 615 = .ok (.iaload, 1) := by decide +kernel
theorem dL_law_616 : decode cL_law 616 = .ok (.aload_n 0, 1) := by decide +kernel
theorem dL_law_617 : decode cL_law 617 = .ok (.iload_n 3, 1) := by decide +kernel
theorem dL_law_618 : decode cL_law 618 = .ok (.iconst 3, 1) := by decide +kernel
theorem dL_law_619 : decode cL_law 619 = .ok (.iadd, 1) := by decide +kernel
theorem dL_law_620 : decode cL_law 620 = .ok (.iaload, 1) := by decide +kernel
theorem dL_law_621 : decode cL_law 621 = .ok (.invokevirtual 81, 3) := by decide +kernel
theorem dL_law_624 : decode cL_law 624 = .ok (.pop, 1) := by decide +kernel
theorem dL_law_625 : decode cL_law 625 = .ok (.goto 494, 3) := by decide +kernel
set_option maxHeartbeats 4000000 in
set_option maxRecDepth 100000 in
theorem law_case_0 {p : Program} {l : Launch} {e : Env} {s : State} {m : MethodId} {below : List Frame} {meth : Method} {c : Code} {dC : Nat → ClassId} {dI : Nat → Nat → Nat} {b L : Nat} {xs : Nat → Int32} {aK aV : Nat → Nat} (C0 : lw_At p s m meth c b L xs) (hE : gE s) (A : Nat → Prop) (hAe : A = fun q : Nat => s.heap.size ≤ q) (hStr : gS aK aV A s s.heap) (hR : gR aK s) (aX aM k cs sl : Nat) (hk : 6 * k + 6 ≤ L) (hkk : k ≤ 512) (hcs : cs + 11 ≤ 600000) (hsl : sl + 200 ≤ 7302250) (next : ∀ (H : Heap) (locs : List Loc) (ls : Array Slot), LInv (dC, dI) A s b aX aM (k + 1) H locs ls → W p l e room_1 s m #[Value.ref b] below meth c H locs (cs + 11) (sl + 200) (lw_Z below #[Value.ref b] s) (F0 m 18 ls [])) (H : Heap) (locs : List Loc) (ls : Array Slot) (hI : LInv (dC, dI) A s b aX aM k H locs ls) : W p l e room_1 s m #[Value.ref b] below meth c H locs cs sl (lw_Z below #[Value.ref b] s) (F0 m 180 ls []) := by
  obtain ⟨hx, hb, hr, hml, hown, hts0, hX, hbl, hlocks, hgv⟩ := id C0
  have hts : ∀ w ∈ gT, w.before #[Value.ref b] s = true := fun w h => hts0 w (gT_sub h)
  have hA : ∀ q : Nat, s.heap.size ≤ q → A q := by rw [hAe]; exact fun _ h => h
  have hbA : ¬ A b := by rw [hAe]; exact Nat.not_le.mpr hbl
  obtain ⟨tys, κ, B, w, x, ys, ms, hw, kX, kM, hBX, hMX, hRT, hDY, hl⟩ := hI
  refine lv_aload_n hx hb dL_law_180 rfl (lv_at hl 2 rfl) ?_
  refine lv_aload_n hx hb dL_law_181 rfl (lv_at hl 3 rfl) ?_
  refine lv_iload_n hx hb dL_law_182 rfl (lv_at hl 0 rfl) ?_
  refine lv_iconst (v := 1) hx hb dL_law_183 (by decide) ?_
  refine lv_iadd hx hb dL_law_184 ?_
  refine va_sld hx hb hX hbl hbA hw.2.2.2.1 (sc_in (j := 1) (J := 1) (by omega) (by decide) (by decide) (by omega)) dL_law_185 ?_
  refine W.eq (g2 := F0 m 186 ls [.int (xs (6 * k + 1)), .ref aX]) (by rw [sc_ix (J := 1) (by omega) (by decide) (by decide)]) ?_
  refine lv_aload_n hx hb dL_law_186 rfl (lv_at hl 3 rfl) ?_
  refine lv_iload_n hx hb dL_law_187 rfl (lv_at hl 0 rfl) ?_
  refine lv_iconst (v := 2) hx hb dL_law_188 (by decide) ?_
  refine lv_iadd hx hb dL_law_189 ?_
  refine va_sld hx hb hX hbl hbA hw.2.2.2.1 (sc_in (j := 2) (J := 2) (by omega) (by decide) (by decide) (by omega)) dL_law_190 ?_
  refine W.eq (g2 := F0 m 191 ls [.int (xs (6 * k + 2)), .int (xs (6 * k + 1)), .ref aX]) (by rw [sc_ix (J := 2) (by omega) (by decide) (by decide)]) ?_
  refine lv_aload_n hx hb dL_law_191 rfl (lv_at hl 3 rfl) ?_
  refine lv_iload_n hx hb dL_law_192 rfl (lv_at hl 0 rfl) ?_
  refine lv_iconst (v := 3) hx hb dL_law_193 (by decide) ?_
  refine lv_iadd hx hb dL_law_194 ?_
  refine va_sld hx hb hX hbl hbA hw.2.2.2.1 (sc_in (j := 3) (J := 3) (by omega) (by decide) (by decide) (by omega)) dL_law_195 ?_
  refine W.eq (g2 := F0 m 196 ls [.int (xs (6 * k + 3)), .int (xs (6 * k + 2)), .int (xs (6 * k + 1)), .ref aX]) (by rw [sc_ix (J := 3) (by omega) (by decide) (by decide)]) ?_
  refine lv_aload_n hx hb dL_law_196 rfl (lv_at hl 3 rfl) ?_
  refine lv_iload_n hx hb dL_law_197 rfl (lv_at hl 0 rfl) ?_
  refine lv_iconst (v := 4) hx hb dL_law_198 (by decide) ?_
  refine lv_iadd hx hb dL_law_199 ?_
  refine va_sld hx hb hX hbl hbA hw.2.2.2.1 (sc_in (j := 4) (J := 4) (by omega) (by decide) (by decide) (by omega)) dL_law_200 ?_
  refine W.eq (g2 := F0 m 201 ls [.int (xs (6 * k + 4)), .int (xs (6 * k + 3)), .int (xs (6 * k + 2)), .int (xs (6 * k + 1)), .ref aX]) (by rw [sc_ix (J := 4) (by omega) (by decide) (by decide)]) ?_
  refine lv_aload_n hx hb dL_law_201 rfl (lv_at hl 3 rfl) ?_
  refine lv_iload_n hx hb dL_law_202 rfl (lv_at hl 0 rfl) ?_
  refine lv_iconst (v := 5) hx hb dL_law_203 (by decide) ?_
  refine lv_iadd hx hb dL_law_204 ?_
  refine va_sld hx hb hX hbl hbA hw.2.2.2.1 (sc_in (j := 5) (J := 5) (by omega) (by decide) (by decide) (by omega)) dL_law_205 ?_
  refine W.eq (g2 := F0 m 206 ls [.int (xs (6 * k + 5)), .int (xs (6 * k + 4)), .int (xs (6 * k + 3)), .int (xs (6 * k + 2)), .int (xs (6 * k + 1)), .ref aX]) (by rw [sc_ix (J := 5) (by omega) (by decide) (by decide)]) ?_
  refine t_calli (va_runV (As := [.int (xs (6 * k + 1)), .int (xs (6 * k + 2)), .int (xs (6 * k + 3)), .int (xs (6 * k + 4)), .int (xs (6 * k + 5))]) (rest := []) ⟨hx, hb, hml, hown, hts⟩ (t_X11_feed l dC dI tys κ B w hw.2.2.2.2 aX kX (xs (6 * k + 1)) (xs (6 * k + 2)) (xs (6 * k + 3)) (xs (6 * k + 4)) (xs (6 * k + 5)) H.size) (cwV 5 hts (gUV tw_460 tw_461 tw_462 tw_1 tw_463) rfl rfl rfl (by decide +kernel) ⟨(Nat.le_of_ble_eq_true rfl), (Nat.le_of_ble_eq_true rfl)⟩) ⟨cPre.blind, t_recv hw (ci := 11) kX rfl rfl, cPre.use hw.2.1 hw.1 hw.2.2.1 hE⟩ rfl rfl hl.1 rfl (lv_room (Nat.le_of_ble_eq_true rfl)) dL_law_206 ⟨by show _ ≤ 600000; omega, by show _ ≤ 7302250; omega⟩) hw hA (fun _ _ h => h.2.2.1) (fun v206 w1 H locs hp hw => ?_)
  obtain ⟨_, _, _, hm⟩ := hp
  have hBX := hBX.sm hm (by decide) (by decide)
  have hMX := hMX.sm hm (by decide) (by decide)
  have hRT := hRT.sm hm (by decide) (by decide)
  have hDY := hDY.sm hm (by decide) (by decide)
  refine lv_pop hx hb dL_law_209 rfl ?_
  refine lv_aload_n hx hb dL_law_210 rfl (lv_at hl 1 rfl) ?_
  refine lv_aload_n hx hb dL_law_211 rfl (lv_at hl 3 rfl) ?_
  refine lv_iload_n hx hb dL_law_212 rfl (lv_at hl 0 rfl) ?_
  refine lv_iconst (v := 1) hx hb dL_law_213 (by decide) ?_
  refine lv_iadd hx hb dL_law_214 ?_
  refine va_sld hx hb hX hbl hbA hw.2.2.2.1 (sc_in (j := 1) (J := 1) (by omega) (by decide) (by decide) (by omega)) dL_law_215 ?_
  refine W.eq (g2 := F0 m 216 ls [.int (xs (6 * k + 1)), .ref aM]) (by rw [sc_ix (J := 1) (by omega) (by decide) (by decide)]) ?_
  refine lv_aload_n hx hb dL_law_216 rfl (lv_at hl 3 rfl) ?_
  refine lv_iload_n hx hb dL_law_217 rfl (lv_at hl 0 rfl) ?_
  refine lv_iconst (v := 2) hx hb dL_law_218 (by decide) ?_
  refine lv_iadd hx hb dL_law_219 ?_
  refine va_sld hx hb hX hbl hbA hw.2.2.2.1 (sc_in (j := 2) (J := 2) (by omega) (by decide) (by decide) (by omega)) dL_law_220 ?_
  refine W.eq (g2 := F0 m 221 ls [.int (xs (6 * k + 2)), .int (xs (6 * k + 1)), .ref aM]) (by rw [sc_ix (J := 2) (by omega) (by decide) (by decide)]) ?_
  refine lv_aload_n hx hb dL_law_221 rfl (lv_at hl 3 rfl) ?_
  refine lv_iload_n hx hb dL_law_222 rfl (lv_at hl 0 rfl) ?_
  refine lv_iconst (v := 3) hx hb dL_law_223 (by decide) ?_
  refine lv_iadd hx hb dL_law_224 ?_
  refine va_sld hx hb hX hbl hbA hw.2.2.2.1 (sc_in (j := 3) (J := 3) (by omega) (by decide) (by decide) (by omega)) dL_law_225 ?_
  refine W.eq (g2 := F0 m 226 ls [.int (xs (6 * k + 3)), .int (xs (6 * k + 2)), .int (xs (6 * k + 1)), .ref aM]) (by rw [sc_ix (J := 3) (by omega) (by decide) (by decide)]) ?_
  refine lv_aload_n hx hb dL_law_226 rfl (lv_at hl 3 rfl) ?_
  refine lv_iload_n hx hb dL_law_227 rfl (lv_at hl 0 rfl) ?_
  refine lv_iconst (v := 4) hx hb dL_law_228 (by decide) ?_
  refine lv_iadd hx hb dL_law_229 ?_
  refine va_sld hx hb hX hbl hbA hw.2.2.2.1 (sc_in (j := 4) (J := 4) (by omega) (by decide) (by decide) (by omega)) dL_law_230 ?_
  refine W.eq (g2 := F0 m 231 ls [.int (xs (6 * k + 4)), .int (xs (6 * k + 3)), .int (xs (6 * k + 2)), .int (xs (6 * k + 1)), .ref aM]) (by rw [sc_ix (J := 4) (by omega) (by decide) (by decide)]) ?_
  refine lv_aload_n hx hb dL_law_231 rfl (lv_at hl 3 rfl) ?_
  refine lv_iload_n hx hb dL_law_232 rfl (lv_at hl 0 rfl) ?_
  refine lv_iconst (v := 5) hx hb dL_law_233 (by decide) ?_
  refine lv_iadd hx hb dL_law_234 ?_
  refine va_sld hx hb hX hbl hbA hw.2.2.2.1 (sc_in (j := 5) (J := 5) (by omega) (by decide) (by decide) (by omega)) dL_law_235 ?_
  refine W.eq (g2 := F0 m 236 ls [.int (xs (6 * k + 5)), .int (xs (6 * k + 4)), .int (xs (6 * k + 3)), .int (xs (6 * k + 2)), .int (xs (6 * k + 1)), .ref aM]) (by rw [sc_ix (J := 5) (by omega) (by decide) (by decide)]) ?_
  refine t_calli (va_runV (As := [.int (xs (6 * k + 1)), .int (xs (6 * k + 2)), .int (xs (6 * k + 3)), .int (xs (6 * k + 4)), .int (xs (6 * k + 5))]) (rest := []) ⟨hx, hb, hml, hown, hts⟩ (t_X12_feed l dC dI tys κ B w1 hw.2.2.2.2 aM kM (xs (6 * k + 1)) (xs (6 * k + 2)) (xs (6 * k + 3)) (xs (6 * k + 4)) (xs (6 * k + 5)) H.size) (cwV 5 hts (gUV tw_1240 tw_1241 tw_1242 tw_13 tw_1243) rfl rfl rfl (by decide +kernel) ⟨(Nat.le_of_ble_eq_true rfl), (Nat.le_of_ble_eq_true rfl)⟩) ⟨cPre.blind, t_recv hw (ci := 12) kM rfl rfl, cPre.use hw.2.1 hw.1 hw.2.2.1 hE⟩ rfl rfl hl.1 rfl (lv_room (Nat.le_of_ble_eq_true rfl)) dL_law_236 ⟨by show _ ≤ 600000; omega, by show _ ≤ 7302250; omega⟩) hw hA (fun _ _ h => h.2.2.1) (fun v236 w2 H locs hp hw => ?_)
  obtain ⟨_, _, _, hm⟩ := hp
  have hBX := hBX.sm hm (by decide) (by decide)
  have hMX := hMX.sm hm (by decide) (by decide)
  have hRT := hRT.sm hm (by decide) (by decide)
  have hDY := hDY.sm hm (by decide) (by decide)
  refine lv_pop hx hb dL_law_239 rfl ?_
  refine lv_goto (tgt := 1119) hx hb dL_law_240 (by decide) ?_
  exact law_next C0 A hAe aX aM k cs sl hk hkk next H locs ls (by omega) (by omega) ⟨tys, κ, B, w2, x, ys, ms, hw, kX, kM, hBX, hMX, hRT, hDY, hl⟩
set_option maxHeartbeats 4000000 in
set_option maxRecDepth 100000 in
theorem law_case_1 {p : Program} {l : Launch} {e : Env} {s : State} {m : MethodId} {below : List Frame} {meth : Method} {c : Code} {dC : Nat → ClassId} {dI : Nat → Nat → Nat} {b L : Nat} {xs : Nat → Int32} {aK aV : Nat → Nat} (C0 : lw_At p s m meth c b L xs) (hE : gE s) (A : Nat → Prop) (hAe : A = fun q : Nat => s.heap.size ≤ q) (hStr : gS aK aV A s s.heap) (hR : gR aK s) (aX aM k cs sl : Nat) (hk : 6 * k + 6 ≤ L) (hkk : k ≤ 512) (hcs : cs + 11 ≤ 600000) (hsl : sl + 200 ≤ 7302250) (next : ∀ (H : Heap) (locs : List Loc) (ls : Array Slot), LInv (dC, dI) A s b aX aM (k + 1) H locs ls → W p l e room_1 s m #[Value.ref b] below meth c H locs (cs + 11) (sl + 200) (lw_Z below #[Value.ref b] s) (F0 m 18 ls [])) (H : Heap) (locs : List Loc) (ls : Array Slot) (hI : LInv (dC, dI) A s b aX aM k H locs ls) : W p l e room_1 s m #[Value.ref b] below meth c H locs cs sl (lw_Z below #[Value.ref b] s) (F0 m 243 ls []) := by
  obtain ⟨hx, hb, hr, hml, hown, hts0, hX, hbl, hlocks, hgv⟩ := id C0
  have hts : ∀ w ∈ gT, w.before #[Value.ref b] s = true := fun w h => hts0 w (gT_sub h)
  have hA : ∀ q : Nat, s.heap.size ≤ q → A q := by rw [hAe]; exact fun _ h => h
  have hbA : ¬ A b := by rw [hAe]; exact Nat.not_le.mpr hbl
  obtain ⟨tys, κ, B, w, x, ys, ms, hw, kX, kM, hBX, hMX, hRT, hDY, hl⟩ := hI
  refine lv_aload_n hx hb dL_law_243 rfl (lv_at hl 2 rfl) ?_
  refine lv_aload_n hx hb dL_law_244 rfl (lv_at hl 3 rfl) ?_
  refine lv_iload_n hx hb dL_law_245 rfl (lv_at hl 0 rfl) ?_
  refine lv_iconst (v := 1) hx hb dL_law_246 (by decide) ?_
  refine lv_iadd hx hb dL_law_247 ?_
  refine va_sld hx hb hX hbl hbA hw.2.2.2.1 (sc_in (j := 1) (J := 1) (by omega) (by decide) (by decide) (by omega)) dL_law_248 ?_
  refine W.eq (g2 := F0 m 249 ls [.int (xs (6 * k + 1)), .ref aX]) (by rw [sc_ix (J := 1) (by omega) (by decide) (by decide)]) ?_
  refine t_calli (va_runV (As := [.int (xs (6 * k + 1))]) (rest := []) ⟨hx, hb, hml, hown, hts⟩ (t_X11_end l dC dI tys κ B w hw.2.2.2.2 aX kX (xs (6 * k + 1)) H.size) (cwV 1 hts (gUV tw_472 tw_473 tw_474 tw_1 tw_475) rfl rfl rfl (by decide +kernel) ⟨(Nat.le_of_ble_eq_true rfl), (Nat.le_of_ble_eq_true rfl)⟩) ⟨cPre.blind, t_recv hw (ci := 11) kX rfl rfl, cPre.use hw.2.1 hw.1 hw.2.2.1 hE⟩ rfl rfl hl.1 rfl (lv_room (Nat.le_of_ble_eq_true rfl)) dL_law_249 ⟨by show _ ≤ 600000; omega, by show _ ≤ 7302250; omega⟩) hw hA (fun _ _ h => h.2.2.1) (fun v249 w1 H locs hp hw => ?_)
  obtain ⟨_, _, _, hm⟩ := hp
  have hBX := hBX.sm hm (by decide) (by decide)
  have hMX := hMX.sm hm (by decide) (by decide)
  have hRT := hRT.sm hm (by decide) (by decide)
  have hDY := hDY.sm hm (by decide) (by decide)
  refine lv_pop hx hb dL_law_252 rfl ?_
  refine lv_aload_n hx hb dL_law_253 rfl (lv_at hl 1 rfl) ?_
  refine lv_aload_n hx hb dL_law_254 rfl (lv_at hl 3 rfl) ?_
  refine lv_iload_n hx hb dL_law_255 rfl (lv_at hl 0 rfl) ?_
  refine lv_iconst (v := 1) hx hb dL_law_256 (by decide) ?_
  refine lv_iadd hx hb dL_law_257 ?_
  refine va_sld hx hb hX hbl hbA hw.2.2.2.1 (sc_in (j := 1) (J := 1) (by omega) (by decide) (by decide) (by omega)) dL_law_258 ?_
  refine W.eq (g2 := F0 m 259 ls [.int (xs (6 * k + 1)), .ref aM]) (by rw [sc_ix (J := 1) (by omega) (by decide) (by decide)]) ?_
  refine t_calli (va_runV (As := [.int (xs (6 * k + 1))]) (rest := []) ⟨hx, hb, hml, hown, hts⟩ (t_X12_end l dC dI tys κ B w1 hw.2.2.2.2 aM kM (xs (6 * k + 1)) H.size) (cwV 1 hts (gUV tw_1248 tw_1249 tw_1250 tw_13 tw_1251) rfl rfl rfl (by decide +kernel) ⟨(Nat.le_of_ble_eq_true rfl), (Nat.le_of_ble_eq_true rfl)⟩) ⟨cPre.blind, t_recv hw (ci := 12) kM rfl rfl, cPre.use hw.2.1 hw.1 hw.2.2.1 hE⟩ rfl rfl hl.1 rfl (lv_room (Nat.le_of_ble_eq_true rfl)) dL_law_259 ⟨by show _ ≤ 600000; omega, by show _ ≤ 7302250; omega⟩) hw hA (fun _ _ h => h.2.2.1) (fun v259 w2 H locs hp hw => ?_)
  obtain ⟨_, _, _, hm⟩ := hp
  have hBX := hBX.sm hm (by decide) (by decide)
  have hMX := hMX.sm hm (by decide) (by decide)
  have hRT := hRT.sm hm (by decide) (by decide)
  have hDY := hDY.sm hm (by decide) (by decide)
  refine lv_pop hx hb dL_law_262 rfl ?_
  refine lv_goto (tgt := 1119) hx hb dL_law_263 (by decide) ?_
  exact law_next C0 A hAe aX aM k cs sl hk hkk next H locs ls (by omega) (by omega) ⟨tys, κ, B, w2, x, ys, ms, hw, kX, kM, hBX, hMX, hRT, hDY, hl⟩
set_option maxHeartbeats 4000000 in
set_option maxRecDepth 100000 in
theorem law_case_2 {p : Program} {l : Launch} {e : Env} {s : State} {m : MethodId} {below : List Frame} {meth : Method} {c : Code} {dC : Nat → ClassId} {dI : Nat → Nat → Nat} {b L : Nat} {xs : Nat → Int32} {aK aV : Nat → Nat} (C0 : lw_At p s m meth c b L xs) (hE : gE s) (A : Nat → Prop) (hAe : A = fun q : Nat => s.heap.size ≤ q) (hStr : gS aK aV A s s.heap) (hR : gR aK s) (aX aM k cs sl : Nat) (hk : 6 * k + 6 ≤ L) (hkk : k ≤ 512) (hcs : cs + 11 ≤ 600000) (hsl : sl + 200 ≤ 7302250) (next : ∀ (H : Heap) (locs : List Loc) (ls : Array Slot), LInv (dC, dI) A s b aX aM (k + 1) H locs ls → W p l e room_1 s m #[Value.ref b] below meth c H locs (cs + 11) (sl + 200) (lw_Z below #[Value.ref b] s) (F0 m 18 ls [])) (H : Heap) (locs : List Loc) (ls : Array Slot) (hI : LInv (dC, dI) A s b aX aM k H locs ls) : W p l e room_1 s m #[Value.ref b] below meth c H locs cs sl (lw_Z below #[Value.ref b] s) (F0 m 266 ls []) := by
  obtain ⟨hx, hb, hr, hml, hown, hts0, hX, hbl, hlocks, hgv⟩ := id C0
  have hts : ∀ w ∈ gT, w.before #[Value.ref b] s = true := fun w h => hts0 w (gT_sub h)
  have hA : ∀ q : Nat, s.heap.size ≤ q → A q := by rw [hAe]; exact fun _ h => h
  have hbA : ¬ A b := by rw [hAe]; exact Nat.not_le.mpr hbl
  obtain ⟨tys, κ, B, w, x, ys, ms, hw, kX, kM, hBX, hMX, hRT, hDY, hl⟩ := hI
  refine lv_aload_n hx hb dL_law_266 rfl (lv_at hl 2 rfl) ?_
  refine t_calliA (va_runV (As := []) (rest := []) ⟨hx, hb, hml, hown, hts⟩ (t_X11_choir l dC dI tys κ B w hw.2.2.2.2 aK aV aX kX H.size) (cwV 0 hts (gUV tw_476 tw_477 tw_478 tw_1 tw_479) rfl rfl rfl (by decide +kernel) ⟨(Nat.le_of_ble_eq_true rfl), (Nat.le_of_ble_eq_true rfl)⟩) ⟨cPreS.blind, t_recv hw (ci := 11) kX rfl rfl, cPreS.use hw.2.1 hw.1 hw.2.2.1 hE hStr hR hw.2.2.2.1 (hw.free hA)⟩ rfl rfl hl.1 rfl (lv_room (Nat.le_of_ble_eq_true rfl)) dL_law_267 ⟨by show _ ≤ 600000; omega, by show _ ≤ 7302250; omega⟩) hw hA (fun _ _ h => h.2.2.1) (fun v267 u H locs hp hw => ?_)
  obtain ⟨w1, κ1, tys1⟩ := u
  obtain ⟨_, _, _, hEx, _, hm⟩ := hp
  dsimp only at hEx hm hw
  have hBX := hBX.sm hm (by decide) (by decide)
  have hMX := hMX.sm hm (by decide) (by decide)
  have hRT := hRT.sm hm (by decide) (by decide)
  have hDY := hDY.sm hm (by decide) (by decide)
  have hBX := hBX.ext hEx
  have hMX := hMX.ext hEx
  have hRT := hRT.ext hEx
  have hDY := hDY.ext hEx
  have kX := hEx _ _ kX
  have kM := hEx _ _ kM
  clear hEx
  clear hm
  refine lv_pop hx hb dL_law_270 rfl ?_
  refine lv_aload_n hx hb dL_law_271 rfl (lv_at hl 1 rfl) ?_
  obtain ⟨sA, dd, y1, y2, y3, y4, y5⟩ := hDY
  refine t_calli (va_runV (As := []) (rest := []) ⟨hx, hb, hml, hown, hts⟩ (t_X12_choir l dC dI tys1 κ1 B w1 hw.2.2.2.2 aM kM sA y2 y1 dd y4 y5 y3 hRT H.size) (cwV 0 hts (gUV tw_1420 tw_1421 tw_1422 tw_13 tw_1423) rfl rfl rfl (by decide +kernel) ⟨(Nat.le_of_ble_eq_true rfl), (Nat.le_of_ble_eq_true rfl)⟩) ⟨cPre.blind, t_recv hw (ci := 12) kM rfl rfl, cPre.use hw.2.1 hw.1 hw.2.2.1 hE⟩ rfl rfl hl.1 rfl (lv_room (Nat.le_of_ble_eq_true rfl)) dL_law_272 ⟨by show _ ≤ 600000; omega, by show _ ≤ 7302250; omega⟩) hw hA (fun _ _ h => h.1) (fun v272 w2 H locs hp hw => ?_)
  obtain ⟨_, hm, ⟨d1, l1, h1, e1⟩, hRTn⟩ := hp
  have hBX := hBX.sm hm (by decide) (by decide)
  have hMX := hMX.sm hm (by decide) (by decide)
  have hRT := hRTn
  have hDY : DY κ1 w2 aM := ⟨sA, d1, hm.1 _ _ _ _ y1 (by decide), y2, e1, l1, h1⟩
  refine lv_pop hx hb dL_law_275 rfl ?_
  refine lv_goto (tgt := 1119) hx hb dL_law_276 (by decide) ?_
  exact law_next C0 A hAe aX aM k cs sl hk hkk next H locs ls (by omega) (by omega) ⟨tys1, κ1, B, w2, x, ys, ms, hw, kX, kM, hBX, hMX, hRT, hDY, hl⟩
set_option maxHeartbeats 4000000 in
set_option maxRecDepth 100000 in
theorem law_case_3 {p : Program} {l : Launch} {e : Env} {s : State} {m : MethodId} {below : List Frame} {meth : Method} {c : Code} {dC : Nat → ClassId} {dI : Nat → Nat → Nat} {b L : Nat} {xs : Nat → Int32} {aK aV : Nat → Nat} (C0 : lw_At p s m meth c b L xs) (hE : gE s) (A : Nat → Prop) (hAe : A = fun q : Nat => s.heap.size ≤ q) (hStr : gS aK aV A s s.heap) (hR : gR aK s) (aX aM k cs sl : Nat) (hk : 6 * k + 6 ≤ L) (hkk : k ≤ 512) (hcs : cs + 11 ≤ 600000) (hsl : sl + 200 ≤ 7302250) (next : ∀ (H : Heap) (locs : List Loc) (ls : Array Slot), LInv (dC, dI) A s b aX aM (k + 1) H locs ls → W p l e room_1 s m #[Value.ref b] below meth c H locs (cs + 11) (sl + 200) (lw_Z below #[Value.ref b] s) (F0 m 18 ls [])) (H : Heap) (locs : List Loc) (ls : Array Slot) (hI : LInv (dC, dI) A s b aX aM k H locs ls) : W p l e room_1 s m #[Value.ref b] below meth c H locs cs sl (lw_Z below #[Value.ref b] s) (F0 m 279 ls []) := by
  obtain ⟨hx, hb, hr, hml, hown, hts0, hX, hbl, hlocks, hgv⟩ := id C0
  have hts : ∀ w ∈ gT, w.before #[Value.ref b] s = true := fun w h => hts0 w (gT_sub h)
  have hA : ∀ q : Nat, s.heap.size ≤ q → A q := by rw [hAe]; exact fun _ h => h
  have hbA : ¬ A b := by rw [hAe]; exact Nat.not_le.mpr hbl
  obtain ⟨tys, κ, B, w, x, ys, ms, hw, kX, kM, hBX, hMX, hRT, hDY, hl⟩ := hI
  refine lv_aload_n hx hb dL_law_279 rfl (lv_at hl 2 rfl) ?_
  refine t_calli (va_runV (As := []) (rest := []) ⟨hx, hb, hml, hown, hts⟩ (t_X11_rule l dC dI tys κ B w hw.2.2.2.2 aK aV aX kX H.size) (cwV 0 hts (gUV tw_629 tw_630 tw_631 tw_1 tw_632) rfl rfl rfl (by decide +kernel) ⟨(Nat.le_of_ble_eq_true rfl), (Nat.le_of_ble_eq_true rfl)⟩) ⟨cPreS.blind, t_recv hw (ci := 11) kX rfl rfl, cPreS.use hw.2.1 hw.1 hw.2.2.1 hE hStr hR hw.2.2.2.1 (hw.free hA)⟩ rfl rfl hl.1 rfl (lv_room (Nat.le_of_ble_eq_true rfl)) dL_law_280 ⟨by show _ ≤ 600000; omega, by show _ ≤ 7302250; omega⟩) hw hA (fun _ _ h => h.2.2.1) (fun v280 w1 H locs hp hw => ?_)
  obtain ⟨_, _, _, hm⟩ := hp
  have hBX := hBX.sm hm (by decide) (by decide)
  have hMX := hMX.sm hm (by decide) (by decide)
  have hRT := hRT.sm hm (by decide) (by decide)
  have hDY := hDY.sm hm (by decide) (by decide)
  refine lv_pop hx hb dL_law_283 rfl ?_
  refine lv_aload_n hx hb dL_law_284 rfl (lv_at hl 1 rfl) ?_
  refine t_calli (va_runV (As := []) (rest := []) ⟨hx, hb, hml, hown, hts⟩ (t_X12_rule l dC dI tys κ B w1 hw.2.2.2.2 aM kM hRT H.size) (cwV 0 hts (gUV tw_1252 tw_1253 tw_1254 tw_13 tw_1255) rfl rfl rfl (by decide +kernel) ⟨(Nat.le_of_ble_eq_true rfl), (Nat.le_of_ble_eq_true rfl)⟩) ⟨cPre.blind, t_recv hw (ci := 12) kM rfl rfl, cPre.use hw.2.1 hw.1 hw.2.2.1 hE⟩ rfl rfl hl.1 rfl (lv_room (Nat.le_of_ble_eq_true rfl)) dL_law_285 ⟨by show _ ≤ 600000; omega, by show _ ≤ 7302250; omega⟩) hw hA (fun _ _ h => h.1) (fun v285 w2 H locs hp hw => ?_)
  obtain ⟨_, hm, hRTn⟩ := hp
  have hBX := hBX.sm hm (by decide) (by decide)
  have hMX := hMX.sm hm (by decide) (by decide)
  have hRT := hRTn
  have hDY := hDY.sm hm (by decide) (by decide)
  refine lv_pop hx hb dL_law_288 rfl ?_
  refine lv_goto (tgt := 1119) hx hb dL_law_289 (by decide) ?_
  exact law_next C0 A hAe aX aM k cs sl hk hkk next H locs ls (by omega) (by omega) ⟨tys, κ, B, w2, x, ys, ms, hw, kX, kM, hBX, hMX, hRT, hDY, hl⟩
set_option maxHeartbeats 4000000 in
set_option maxRecDepth 100000 in
theorem law_case_4 {p : Program} {l : Launch} {e : Env} {s : State} {m : MethodId} {below : List Frame} {meth : Method} {c : Code} {dC : Nat → ClassId} {dI : Nat → Nat → Nat} {b L : Nat} {xs : Nat → Int32} {aK aV : Nat → Nat} (C0 : lw_At p s m meth c b L xs) (hE : gE s) (A : Nat → Prop) (hAe : A = fun q : Nat => s.heap.size ≤ q) (hStr : gS aK aV A s s.heap) (hR : gR aK s) (aX aM k cs sl : Nat) (hk : 6 * k + 6 ≤ L) (hkk : k ≤ 512) (hcs : cs + 11 ≤ 600000) (hsl : sl + 200 ≤ 7302250) (next : ∀ (H : Heap) (locs : List Loc) (ls : Array Slot), LInv (dC, dI) A s b aX aM (k + 1) H locs ls → W p l e room_1 s m #[Value.ref b] below meth c H locs (cs + 11) (sl + 200) (lw_Z below #[Value.ref b] s) (F0 m 18 ls [])) (H : Heap) (locs : List Loc) (ls : Array Slot) (hI : LInv (dC, dI) A s b aX aM k H locs ls) : W p l e room_1 s m #[Value.ref b] below meth c H locs cs sl (lw_Z below #[Value.ref b] s) (F0 m 292 ls []) := by
  obtain ⟨hx, hb, hr, hml, hown, hts0, hX, hbl, hlocks, hgv⟩ := id C0
  have hts : ∀ w ∈ gT, w.before #[Value.ref b] s = true := fun w h => hts0 w (gT_sub h)
  have hA : ∀ q : Nat, s.heap.size ≤ q → A q := by rw [hAe]; exact fun _ h => h
  have hbA : ¬ A b := by rw [hAe]; exact Nat.not_le.mpr hbl
  obtain ⟨tys, κ, B, w, x, ys, ms, hw, kX, kM, hBX, hMX, hRT, hDY, hl⟩ := hI
  refine lv_aload_n hx hb dL_law_292 rfl (lv_at hl 2 rfl) ?_
  refine lv_aload_n hx hb dL_law_293 rfl (lv_at hl 3 rfl) ?_
  refine lv_iload_n hx hb dL_law_294 rfl (lv_at hl 0 rfl) ?_
  refine lv_iconst (v := 1) hx hb dL_law_295 (by decide) ?_
  refine lv_iadd hx hb dL_law_296 ?_
  refine va_sld hx hb hX hbl hbA hw.2.2.2.1 (sc_in (j := 1) (J := 1) (by omega) (by decide) (by decide) (by omega)) dL_law_297 ?_
  refine W.eq (g2 := F0 m 298 ls [.int (xs (6 * k + 1)), .ref aX]) (by rw [sc_ix (J := 1) (by omega) (by decide) (by decide)]) ?_
  refine t_calli (va_runV (As := [.int (xs (6 * k + 1))]) (rest := []) ⟨hx, hb, hml, hown, hts⟩ (t_X11_force l dC dI tys κ B w hw.2.2.2.2 aX kX (xs (6 * k + 1)) H.size) (cwV 1 hts (gUV tw_702 tw_703 tw_704 tw_1 tw_705) rfl rfl rfl (by decide +kernel) ⟨(Nat.le_of_ble_eq_true rfl), (Nat.le_of_ble_eq_true rfl)⟩) ⟨cPre.blind, t_recv hw (ci := 11) kX rfl rfl, cPre.use hw.2.1 hw.1 hw.2.2.1 hE⟩ rfl rfl hl.1 rfl (lv_room (Nat.le_of_ble_eq_true rfl)) dL_law_298 ⟨by show _ ≤ 600000; omega, by show _ ≤ 7302250; omega⟩) hw hA (fun _ _ h => h.1) (fun v298 w1 H locs hp hw => ?_)
  obtain ⟨_, hm⟩ := hp
  have hBX := hBX.sm hm (by decide) (by decide)
  have hMX := hMX.sm hm (by decide) (by decide)
  have hRT := hRT.sm hm (by decide) (by decide)
  have hDY := hDY.sm hm (by decide) (by decide)
  refine lv_pop hx hb dL_law_301 rfl ?_
  refine lv_aload_n hx hb dL_law_302 rfl (lv_at hl 1 rfl) ?_
  refine lv_aload_n hx hb dL_law_303 rfl (lv_at hl 3 rfl) ?_
  refine lv_iload_n hx hb dL_law_304 rfl (lv_at hl 0 rfl) ?_
  refine lv_iconst (v := 1) hx hb dL_law_305 (by decide) ?_
  refine lv_iadd hx hb dL_law_306 ?_
  refine va_sld hx hb hX hbl hbA hw.2.2.2.1 (sc_in (j := 1) (J := 1) (by omega) (by decide) (by decide) (by omega)) dL_law_307 ?_
  refine W.eq (g2 := F0 m 308 ls [.int (xs (6 * k + 1)), .ref aM]) (by rw [sc_ix (J := 1) (by omega) (by decide) (by decide)]) ?_
  refine t_calli (va_runV (As := [.int (xs (6 * k + 1))]) (rest := []) ⟨hx, hb, hml, hown, hts⟩ (t_X12_force l dC dI tys κ B w1 hw.2.2.2.2 aM kM (xs (6 * k + 1)) H.size) (cwV 1 hts (gUV tw_1436 tw_1437 tw_1438 tw_13 tw_1439) rfl rfl rfl (by decide +kernel) ⟨(Nat.le_of_ble_eq_true rfl), (Nat.le_of_ble_eq_true rfl)⟩) ⟨cPre.blind, t_recv hw (ci := 12) kM rfl rfl, cPre.use hw.2.1 hw.1 hw.2.2.1 hE⟩ rfl rfl hl.1 rfl (lv_room (Nat.le_of_ble_eq_true rfl)) dL_law_308 ⟨by show _ ≤ 600000; omega, by show _ ≤ 7302250; omega⟩) hw hA (fun _ _ h => h.2.2.1) (fun v308 w2 H locs hp hw => ?_)
  obtain ⟨_, _, _, hm⟩ := hp
  have hBX := hBX.sm hm (by decide) (by decide)
  have hMX := hMX.sm hm (by decide) (by decide)
  have hRT := hRT.sm hm (by decide) (by decide)
  have hDY := hDY.sm hm (by decide) (by decide)
  refine lv_pop hx hb dL_law_311 rfl ?_
  refine lv_goto (tgt := 1119) hx hb dL_law_312 (by decide) ?_
  exact law_next C0 A hAe aX aM k cs sl hk hkk next H locs ls (by omega) (by omega) ⟨tys, κ, B, w2, x, ys, ms, hw, kX, kM, hBX, hMX, hRT, hDY, hl⟩
set_option maxHeartbeats 4000000 in
set_option maxRecDepth 100000 in
theorem law_case_5 {p : Program} {l : Launch} {e : Env} {s : State} {m : MethodId} {below : List Frame} {meth : Method} {c : Code} {dC : Nat → ClassId} {dI : Nat → Nat → Nat} {b L : Nat} {xs : Nat → Int32} {aK aV : Nat → Nat} (C0 : lw_At p s m meth c b L xs) (hE : gE s) (A : Nat → Prop) (hAe : A = fun q : Nat => s.heap.size ≤ q) (hStr : gS aK aV A s s.heap) (hR : gR aK s) (aX aM k cs sl : Nat) (hk : 6 * k + 6 ≤ L) (hkk : k ≤ 512) (hcs : cs + 11 ≤ 600000) (hsl : sl + 200 ≤ 7302250) (next : ∀ (H : Heap) (locs : List Loc) (ls : Array Slot), LInv (dC, dI) A s b aX aM (k + 1) H locs ls → W p l e room_1 s m #[Value.ref b] below meth c H locs (cs + 11) (sl + 200) (lw_Z below #[Value.ref b] s) (F0 m 18 ls [])) (H : Heap) (locs : List Loc) (ls : Array Slot) (hI : LInv (dC, dI) A s b aX aM k H locs ls) : W p l e room_1 s m #[Value.ref b] below meth c H locs cs sl (lw_Z below #[Value.ref b] s) (F0 m 315 ls []) := by
  obtain ⟨hx, hb, hr, hml, hown, hts0, hX, hbl, hlocks, hgv⟩ := id C0
  have hts : ∀ w ∈ gT, w.before #[Value.ref b] s = true := fun w h => hts0 w (gT_sub h)
  have hA : ∀ q : Nat, s.heap.size ≤ q → A q := by rw [hAe]; exact fun _ h => h
  have hbA : ¬ A b := by rw [hAe]; exact Nat.not_le.mpr hbl
  obtain ⟨tys, κ, B, w, x, ys, ms, hw, kX, kM, hBX, hMX, hRT, hDY, hl⟩ := hI
  refine lv_aload_n hx hb dL_law_315 rfl (lv_at hl 2 rfl) ?_
  refine lv_aload_n hx hb dL_law_316 rfl (lv_at hl 3 rfl) ?_
  refine lv_iload_n hx hb dL_law_317 rfl (lv_at hl 0 rfl) ?_
  refine lv_iconst (v := 1) hx hb dL_law_318 (by decide) ?_
  refine lv_iadd hx hb dL_law_319 ?_
  refine va_sld hx hb hX hbl hbA hw.2.2.2.1 (sc_in (j := 1) (J := 1) (by omega) (by decide) (by decide) (by omega)) dL_law_320 ?_
  refine W.eq (g2 := F0 m 321 ls [.int (xs (6 * k + 1)), .ref aX]) (by rw [sc_ix (J := 1) (by omega) (by decide) (by decide)]) ?_
  refine lv_aload_n hx hb dL_law_321 rfl (lv_at hl 3 rfl) ?_
  refine lv_iload_n hx hb dL_law_322 rfl (lv_at hl 0 rfl) ?_
  refine lv_iconst (v := 2) hx hb dL_law_323 (by decide) ?_
  refine lv_iadd hx hb dL_law_324 ?_
  refine va_sld hx hb hX hbl hbA hw.2.2.2.1 (sc_in (j := 2) (J := 2) (by omega) (by decide) (by decide) (by omega)) dL_law_325 ?_
  refine W.eq (g2 := F0 m 326 ls [.int (xs (6 * k + 2)), .int (xs (6 * k + 1)), .ref aX]) (by rw [sc_ix (J := 2) (by omega) (by decide) (by decide)]) ?_
  refine t_calli (va_runV (As := [.int (xs (6 * k + 1)), .int (xs (6 * k + 2))]) (rest := []) ⟨hx, hb, hml, hown, hts⟩ (t_X11_boy l dC dI tys κ B w hw.2.2.2.2 aX kX (xs (6 * k + 1)) (xs (6 * k + 2)) H.size) (cwV 2 hts (gUV tw_706 tw_707 tw_708 tw_1 tw_709) rfl rfl rfl (by decide +kernel) ⟨(Nat.le_of_ble_eq_true rfl), (Nat.le_of_ble_eq_true rfl)⟩) ⟨cPre.blind, t_recv hw (ci := 11) kX rfl rfl, cPre.use hw.2.1 hw.1 hw.2.2.1 hE⟩ rfl rfl hl.1 rfl (lv_room (Nat.le_of_ble_eq_true rfl)) dL_law_326 ⟨by show _ ≤ 600000; omega, by show _ ≤ 7302250; omega⟩) hw hA (fun _ _ h => h.1) (fun v326 w1 H locs hp hw => ?_)
  obtain ⟨_, hm⟩ := hp
  have hBX := hBX.sm hm (by decide) (by decide)
  have hMX := hMX.sm hm (by decide) (by decide)
  have hRT := hRT.sm hm (by decide) (by decide)
  have hDY := hDY.sm hm (by decide) (by decide)
  refine lv_pop hx hb dL_law_329 rfl ?_
  refine lv_aload_n hx hb dL_law_330 rfl (lv_at hl 1 rfl) ?_
  refine lv_aload_n hx hb dL_law_331 rfl (lv_at hl 3 rfl) ?_
  refine lv_iload_n hx hb dL_law_332 rfl (lv_at hl 0 rfl) ?_
  refine lv_iconst (v := 1) hx hb dL_law_333 (by decide) ?_
  refine lv_iadd hx hb dL_law_334 ?_
  refine va_sld hx hb hX hbl hbA hw.2.2.2.1 (sc_in (j := 1) (J := 1) (by omega) (by decide) (by decide) (by omega)) dL_law_335 ?_
  refine W.eq (g2 := F0 m 336 ls [.int (xs (6 * k + 1)), .ref aM]) (by rw [sc_ix (J := 1) (by omega) (by decide) (by decide)]) ?_
  refine lv_aload_n hx hb dL_law_336 rfl (lv_at hl 3 rfl) ?_
  refine lv_iload_n hx hb dL_law_337 rfl (lv_at hl 0 rfl) ?_
  refine lv_iconst (v := 2) hx hb dL_law_338 (by decide) ?_
  refine lv_iadd hx hb dL_law_339 ?_
  refine va_sld hx hb hX hbl hbA hw.2.2.2.1 (sc_in (j := 2) (J := 2) (by omega) (by decide) (by decide) (by omega)) dL_law_340 ?_
  refine W.eq (g2 := F0 m 341 ls [.int (xs (6 * k + 2)), .int (xs (6 * k + 1)), .ref aM]) (by rw [sc_ix (J := 2) (by omega) (by decide) (by decide)]) ?_
  refine t_calli (va_runV (As := [.int (xs (6 * k + 1)), .int (xs (6 * k + 2))]) (rest := []) ⟨hx, hb, hml, hown, hts⟩ (t_X12_boy l dC dI tys κ B w1 hw.2.2.2.2 aM kM (xs (6 * k + 1)) (xs (6 * k + 2)) H.size) (cwV 2 hts (gUV tw_1444 tw_1445 tw_1446 tw_13 tw_1447) rfl rfl rfl (by decide +kernel) ⟨(Nat.le_of_ble_eq_true rfl), (Nat.le_of_ble_eq_true rfl)⟩) ⟨cPre.blind, t_recv hw (ci := 12) kM rfl rfl, cPre.use hw.2.1 hw.1 hw.2.2.1 hE⟩ rfl rfl hl.1 rfl (lv_room (Nat.le_of_ble_eq_true rfl)) dL_law_341 ⟨by show _ ≤ 600000; omega, by show _ ≤ 7302250; omega⟩) hw hA (fun _ _ h => h.1) (fun v341 w2 H locs hp hw => ?_)
  obtain ⟨_, hm⟩ := hp
  have hBX := hBX.sm hm (by decide) (by decide)
  have hMX := hMX.sm hm (by decide) (by decide)
  have hRT := hRT.sm hm (by decide) (by decide)
  have hDY := hDY.sm hm (by decide) (by decide)
  refine lv_pop hx hb dL_law_344 rfl ?_
  refine lv_goto (tgt := 1119) hx hb dL_law_345 (by decide) ?_
  exact law_next C0 A hAe aX aM k cs sl hk hkk next H locs ls (by omega) (by omega) ⟨tys, κ, B, w2, x, ys, ms, hw, kX, kM, hBX, hMX, hRT, hDY, hl⟩
set_option maxHeartbeats 4000000 in
set_option maxRecDepth 100000 in
theorem law_case_6 {p : Program} {l : Launch} {e : Env} {s : State} {m : MethodId} {below : List Frame} {meth : Method} {c : Code} {dC : Nat → ClassId} {dI : Nat → Nat → Nat} {b L : Nat} {xs : Nat → Int32} {aK aV : Nat → Nat} (C0 : lw_At p s m meth c b L xs) (hE : gE s) (A : Nat → Prop) (hAe : A = fun q : Nat => s.heap.size ≤ q) (hStr : gS aK aV A s s.heap) (hR : gR aK s) (aX aM k cs sl : Nat) (hk : 6 * k + 6 ≤ L) (hkk : k ≤ 512) (hcs : cs + 11 ≤ 600000) (hsl : sl + 200 ≤ 7302250) (next : ∀ (H : Heap) (locs : List Loc) (ls : Array Slot), LInv (dC, dI) A s b aX aM (k + 1) H locs ls → W p l e room_1 s m #[Value.ref b] below meth c H locs (cs + 11) (sl + 200) (lw_Z below #[Value.ref b] s) (F0 m 18 ls [])) (H : Heap) (locs : List Loc) (ls : Array Slot) (hI : LInv (dC, dI) A s b aX aM k H locs ls) : W p l e room_1 s m #[Value.ref b] below meth c H locs cs sl (lw_Z below #[Value.ref b] s) (F0 m 348 ls []) := by
  obtain ⟨hx, hb, hr, hml, hown, hts0, hX, hbl, hlocks, hgv⟩ := id C0
  have hts : ∀ w ∈ gT, w.before #[Value.ref b] s = true := fun w h => hts0 w (gT_sub h)
  have hA : ∀ q : Nat, s.heap.size ≤ q → A q := by rw [hAe]; exact fun _ h => h
  have hbA : ¬ A b := by rw [hAe]; exact Nat.not_le.mpr hbl
  obtain ⟨tys, κ, B, w, x, ys, ms, hw, kX, kM, hBX, hMX, hRT, hDY, hl⟩ := hI
  refine lv_aload_n hx hb dL_law_348 rfl (lv_at hl 2 rfl) ?_
  refine lv_aload_n hx hb dL_law_349 rfl (lv_at hl 3 rfl) ?_
  refine lv_iload_n hx hb dL_law_350 rfl (lv_at hl 0 rfl) ?_
  refine lv_iconst (v := 1) hx hb dL_law_351 (by decide) ?_
  refine lv_iadd hx hb dL_law_352 ?_
  refine va_sld hx hb hX hbl hbA hw.2.2.2.1 (sc_in (j := 1) (J := 1) (by omega) (by decide) (by decide) (by omega)) dL_law_353 ?_
  refine W.eq (g2 := F0 m 354 ls [.int (xs (6 * k + 1)), .ref aX]) (by rw [sc_ix (J := 1) (by omega) (by decide) (by decide)]) ?_
  refine lv_aload_n hx hb dL_law_354 rfl (lv_at hl 3 rfl) ?_
  refine lv_iload_n hx hb dL_law_355 rfl (lv_at hl 0 rfl) ?_
  refine lv_iconst (v := 2) hx hb dL_law_356 (by decide) ?_
  refine lv_iadd hx hb dL_law_357 ?_
  refine va_sld hx hb hX hbl hbA hw.2.2.2.1 (sc_in (j := 2) (J := 2) (by omega) (by decide) (by decide) (by omega)) dL_law_358 ?_
  refine W.eq (g2 := F0 m 359 ls [.int (xs (6 * k + 2)), .int (xs (6 * k + 1)), .ref aX]) (by rw [sc_ix (J := 2) (by omega) (by decide) (by decide)]) ?_
  refine t_calli (va_runV (As := [.int (xs (6 * k + 1)), .int (xs (6 * k + 2))]) (rest := []) ⟨hx, hb, hml, hown, hts⟩ (t_X11_likes l dC dI tys κ B w hw.2.2.2.2 aX kX (xs (6 * k + 1)) (xs (6 * k + 2)) H.size) (cwV 2 hts (gUV tw_714 tw_715 tw_716 tw_1 tw_717) rfl rfl rfl (by decide +kernel) ⟨(Nat.le_of_ble_eq_true rfl), (Nat.le_of_ble_eq_true rfl)⟩) ⟨cPre.blind, t_recv hw (ci := 11) kX rfl rfl, cPre.use hw.2.1 hw.1 hw.2.2.1 hE⟩ rfl rfl hl.1 rfl (lv_room (Nat.le_of_ble_eq_true rfl)) dL_law_359 ⟨by show _ ≤ 600000; omega, by show _ ≤ 7302250; omega⟩) hw hA (fun _ _ h => h.1) (fun v359 w1 H locs hp hw => ?_)
  obtain ⟨_, hm⟩ := hp
  have hBX := hBX.sm hm (by decide) (by decide)
  have hMX := hMX.sm hm (by decide) (by decide)
  have hRT := hRT.sm hm (by decide) (by decide)
  have hDY := hDY.sm hm (by decide) (by decide)
  refine lv_pop hx hb dL_law_362 rfl ?_
  refine lv_aload_n hx hb dL_law_363 rfl (lv_at hl 1 rfl) ?_
  refine lv_aload_n hx hb dL_law_364 rfl (lv_at hl 3 rfl) ?_
  refine lv_iload_n hx hb dL_law_365 rfl (lv_at hl 0 rfl) ?_
  refine lv_iconst (v := 1) hx hb dL_law_366 (by decide) ?_
  refine lv_iadd hx hb dL_law_367 ?_
  refine va_sld hx hb hX hbl hbA hw.2.2.2.1 (sc_in (j := 1) (J := 1) (by omega) (by decide) (by decide) (by omega)) dL_law_368 ?_
  refine W.eq (g2 := F0 m 369 ls [.int (xs (6 * k + 1)), .ref aM]) (by rw [sc_ix (J := 1) (by omega) (by decide) (by decide)]) ?_
  refine lv_aload_n hx hb dL_law_369 rfl (lv_at hl 3 rfl) ?_
  refine lv_iload_n hx hb dL_law_370 rfl (lv_at hl 0 rfl) ?_
  refine lv_iconst (v := 2) hx hb dL_law_371 (by decide) ?_
  refine lv_iadd hx hb dL_law_372 ?_
  refine va_sld hx hb hX hbl hbA hw.2.2.2.1 (sc_in (j := 2) (J := 2) (by omega) (by decide) (by decide) (by omega)) dL_law_373 ?_
  refine W.eq (g2 := F0 m 374 ls [.int (xs (6 * k + 2)), .int (xs (6 * k + 1)), .ref aM]) (by rw [sc_ix (J := 2) (by omega) (by decide) (by decide)]) ?_
  refine t_calli (va_runV (As := [.int (xs (6 * k + 1)), .int (xs (6 * k + 2))]) (rest := []) ⟨hx, hb, hml, hown, hts⟩ (t_X12_likes l dC dI tys κ B w1 hw.2.2.2.2 aM kM (xs (6 * k + 1)) (xs (6 * k + 2)) H.size) (cwV 2 hts (gUV tw_1457 tw_1458 tw_1459 tw_13 tw_1460) rfl rfl rfl (by decide +kernel) ⟨(Nat.le_of_ble_eq_true rfl), (Nat.le_of_ble_eq_true rfl)⟩) ⟨cPre.blind, t_recv hw (ci := 12) kM rfl rfl, cPre.use hw.2.1 hw.1 hw.2.2.1 hE⟩ rfl rfl hl.1 rfl (lv_room (Nat.le_of_ble_eq_true rfl)) dL_law_374 ⟨by show _ ≤ 600000; omega, by show _ ≤ 7302250; omega⟩) hw hA (fun _ _ h => h.1) (fun v374 w2 H locs hp hw => ?_)
  obtain ⟨_, hm⟩ := hp
  have hBX := hBX.sm hm (by decide) (by decide)
  have hMX := hMX.sm hm (by decide) (by decide)
  have hRT := hRT.sm hm (by decide) (by decide)
  have hDY := hDY.sm hm (by decide) (by decide)
  refine lv_pop hx hb dL_law_377 rfl ?_
  refine lv_goto (tgt := 1119) hx hb dL_law_378 (by decide) ?_
  exact law_next C0 A hAe aX aM k cs sl hk hkk next H locs ls (by omega) (by omega) ⟨tys, κ, B, w2, x, ys, ms, hw, kX, kM, hBX, hMX, hRT, hDY, hl⟩
set_option maxHeartbeats 4000000 in
set_option maxRecDepth 100000 in
theorem law_case_7 {p : Program} {l : Launch} {e : Env} {s : State} {m : MethodId} {below : List Frame} {meth : Method} {c : Code} {dC : Nat → ClassId} {dI : Nat → Nat → Nat} {b L : Nat} {xs : Nat → Int32} {aK aV : Nat → Nat} (C0 : lw_At p s m meth c b L xs) (hE : gE s) (A : Nat → Prop) (hAe : A = fun q : Nat => s.heap.size ≤ q) (hStr : gS aK aV A s s.heap) (hR : gR aK s) (aX aM k cs sl : Nat) (hk : 6 * k + 6 ≤ L) (hkk : k ≤ 512) (hcs : cs + 11 ≤ 600000) (hsl : sl + 200 ≤ 7302250) (next : ∀ (H : Heap) (locs : List Loc) (ls : Array Slot), LInv (dC, dI) A s b aX aM (k + 1) H locs ls → W p l e room_1 s m #[Value.ref b] below meth c H locs (cs + 11) (sl + 200) (lw_Z below #[Value.ref b] s) (F0 m 18 ls [])) (H : Heap) (locs : List Loc) (ls : Array Slot) (hI : LInv (dC, dI) A s b aX aM k H locs ls) : W p l e room_1 s m #[Value.ref b] below meth c H locs cs sl (lw_Z below #[Value.ref b] s) (F0 m 381 ls []) := by
  obtain ⟨hx, hb, hr, hml, hown, hts0, hX, hbl, hlocks, hgv⟩ := id C0
  have hts : ∀ w ∈ gT, w.before #[Value.ref b] s = true := fun w h => hts0 w (gT_sub h)
  have hA : ∀ q : Nat, s.heap.size ≤ q → A q := by rw [hAe]; exact fun _ h => h
  have hbA : ¬ A b := by rw [hAe]; exact Nat.not_le.mpr hbl
  obtain ⟨tys, κ, B, w, x, ys, ms, hw, kX, kM, hBX, hMX, hRT, hDY, hl⟩ := hI
  refine lv_aload_n hx hb dL_law_381 rfl (lv_at hl 2 rfl) ?_
  refine lv_aload_n hx hb dL_law_382 rfl (lv_at hl 3 rfl) ?_
  refine lv_iload_n hx hb dL_law_383 rfl (lv_at hl 0 rfl) ?_
  refine lv_iconst (v := 1) hx hb dL_law_384 (by decide) ?_
  refine lv_iadd hx hb dL_law_385 ?_
  refine va_sld hx hb hX hbl hbA hw.2.2.2.1 (sc_in (j := 1) (J := 1) (by omega) (by decide) (by decide) (by omega)) dL_law_386 ?_
  refine W.eq (g2 := F0 m 387 ls [.int (xs (6 * k + 1)), .ref aX]) (by rw [sc_ix (J := 1) (by omega) (by decide) (by decide)]) ?_
  refine lv_aload_n hx hb dL_law_387 rfl (lv_at hl 3 rfl) ?_
  refine lv_iload_n hx hb dL_law_388 rfl (lv_at hl 0 rfl) ?_
  refine lv_iconst (v := 2) hx hb dL_law_389 (by decide) ?_
  refine lv_iadd hx hb dL_law_390 ?_
  refine va_sld hx hb hX hbl hbA hw.2.2.2.1 (sc_in (j := 2) (J := 2) (by omega) (by decide) (by decide) (by omega)) dL_law_391 ?_
  refine W.eq (g2 := F0 m 392 ls [.int (xs (6 * k + 2)), .int (xs (6 * k + 1)), .ref aX]) (by rw [sc_ix (J := 2) (by omega) (by decide) (by decide)]) ?_
  refine t_calli (va_runV (As := [.int (xs (6 * k + 1)), .int (xs (6 * k + 2))]) (rest := []) ⟨hx, hb, hml, hown, hts⟩ (t_X11_canon l dC dI tys κ B w hw.2.2.2.2 aX kX (xs (6 * k + 1)) (xs (6 * k + 2)) H.size) (cwV 2 hts (gUV tw_718 tw_719 tw_720 tw_1 tw_721) rfl rfl rfl (by decide +kernel) ⟨(Nat.le_of_ble_eq_true rfl), (Nat.le_of_ble_eq_true rfl)⟩) ⟨cPre.blind, t_recv hw (ci := 11) kX rfl rfl, cPre.use hw.2.1 hw.1 hw.2.2.1 hE⟩ rfl rfl hl.1 rfl (lv_room (Nat.le_of_ble_eq_true rfl)) dL_law_392 ⟨by show _ ≤ 600000; omega, by show _ ≤ 7302250; omega⟩) hw hA (fun _ _ h => h.1) (fun v392 w1 H locs hp hw => ?_)
  obtain ⟨_, hm⟩ := hp
  have hBX := hBX.sm hm (by decide) (by decide)
  have hMX := hMX.sm hm (by decide) (by decide)
  have hRT := hRT.sm hm (by decide) (by decide)
  have hDY := hDY.sm hm (by decide) (by decide)
  refine lv_pop hx hb dL_law_395 rfl ?_
  refine lv_aload_n hx hb dL_law_396 rfl (lv_at hl 1 rfl) ?_
  refine lv_aload_n hx hb dL_law_397 rfl (lv_at hl 3 rfl) ?_
  refine lv_iload_n hx hb dL_law_398 rfl (lv_at hl 0 rfl) ?_
  refine lv_iconst (v := 1) hx hb dL_law_399 (by decide) ?_
  refine lv_iadd hx hb dL_law_400 ?_
  refine va_sld hx hb hX hbl hbA hw.2.2.2.1 (sc_in (j := 1) (J := 1) (by omega) (by decide) (by decide) (by omega)) dL_law_401 ?_
  refine W.eq (g2 := F0 m 402 ls [.int (xs (6 * k + 1)), .ref aM]) (by rw [sc_ix (J := 1) (by omega) (by decide) (by decide)]) ?_
  refine lv_aload_n hx hb dL_law_402 rfl (lv_at hl 3 rfl) ?_
  refine lv_iload_n hx hb dL_law_403 rfl (lv_at hl 0 rfl) ?_
  refine lv_iconst (v := 2) hx hb dL_law_404 (by decide) ?_
  refine lv_iadd hx hb dL_law_405 ?_
  refine va_sld hx hb hX hbl hbA hw.2.2.2.1 (sc_in (j := 2) (J := 2) (by omega) (by decide) (by decide) (by omega)) dL_law_406 ?_
  refine W.eq (g2 := F0 m 407 ls [.int (xs (6 * k + 2)), .int (xs (6 * k + 1)), .ref aM]) (by rw [sc_ix (J := 2) (by omega) (by decide) (by decide)]) ?_
  refine t_calli (va_runV (As := [.int (xs (6 * k + 1)), .int (xs (6 * k + 2))]) (rest := []) ⟨hx, hb, hml, hown, hts⟩ (t_X12_canon l dC dI tys κ B w1 hw.2.2.2.2 aM kM (xs (6 * k + 1)) (xs (6 * k + 2)) H.size) (cwV 2 hts (gUV tw_1461 tw_1462 tw_1463 tw_13 tw_1464) rfl rfl rfl (by decide +kernel) ⟨(Nat.le_of_ble_eq_true rfl), (Nat.le_of_ble_eq_true rfl)⟩) ⟨cPre.blind, t_recv hw (ci := 12) kM rfl rfl, cPre.use hw.2.1 hw.1 hw.2.2.1 hE⟩ rfl rfl hl.1 rfl (lv_room (Nat.le_of_ble_eq_true rfl)) dL_law_407 ⟨by show _ ≤ 600000; omega, by show _ ≤ 7302250; omega⟩) hw hA (fun _ _ h => h.1) (fun v407 w2 H locs hp hw => ?_)
  obtain ⟨_, hm⟩ := hp
  have hBX := hBX.sm hm (by decide) (by decide)
  have hMX := hMX.sm hm (by decide) (by decide)
  have hRT := hRT.sm hm (by decide) (by decide)
  have hDY := hDY.sm hm (by decide) (by decide)
  refine lv_pop hx hb dL_law_410 rfl ?_
  refine lv_goto (tgt := 1119) hx hb dL_law_411 (by decide) ?_
  exact law_next C0 A hAe aX aM k cs sl hk hkk next H locs ls (by omega) (by omega) ⟨tys, κ, B, w2, x, ys, ms, hw, kX, kM, hBX, hMX, hRT, hDY, hl⟩
set_option maxHeartbeats 4000000 in
set_option maxRecDepth 100000 in
theorem law_case_8 {p : Program} {l : Launch} {e : Env} {s : State} {m : MethodId} {below : List Frame} {meth : Method} {c : Code} {dC : Nat → ClassId} {dI : Nat → Nat → Nat} {b L : Nat} {xs : Nat → Int32} {aK aV : Nat → Nat} (C0 : lw_At p s m meth c b L xs) (hE : gE s) (A : Nat → Prop) (hAe : A = fun q : Nat => s.heap.size ≤ q) (hStr : gS aK aV A s s.heap) (hR : gR aK s) (aX aM k cs sl : Nat) (hk : 6 * k + 6 ≤ L) (hkk : k ≤ 512) (hcs : cs + 11 ≤ 600000) (hsl : sl + 200 ≤ 7302250) (next : ∀ (H : Heap) (locs : List Loc) (ls : Array Slot), LInv (dC, dI) A s b aX aM (k + 1) H locs ls → W p l e room_1 s m #[Value.ref b] below meth c H locs (cs + 11) (sl + 200) (lw_Z below #[Value.ref b] s) (F0 m 18 ls [])) (H : Heap) (locs : List Loc) (ls : Array Slot) (hI : LInv (dC, dI) A s b aX aM k H locs ls) : W p l e room_1 s m #[Value.ref b] below meth c H locs cs sl (lw_Z below #[Value.ref b] s) (F0 m 414 ls []) := by
  obtain ⟨hx, hb, hr, hml, hown, hts0, hX, hbl, hlocks, hgv⟩ := id C0
  have hts : ∀ w ∈ gT, w.before #[Value.ref b] s = true := fun w h => hts0 w (gT_sub h)
  have hA : ∀ q : Nat, s.heap.size ≤ q → A q := by rw [hAe]; exact fun _ h => h
  have hbA : ¬ A b := by rw [hAe]; exact Nat.not_le.mpr hbl
  obtain ⟨tys, κ, B, w, x, ys, ms, hw, kX, kM, hBX, hMX, hRT, hDY, hl⟩ := hI
  refine lv_aload_n hx hb dL_law_414 rfl (lv_at hl 2 rfl) ?_
  refine lv_aload_n hx hb dL_law_415 rfl (lv_at hl 3 rfl) ?_
  refine lv_iload_n hx hb dL_law_416 rfl (lv_at hl 0 rfl) ?_
  refine lv_iconst (v := 1) hx hb dL_law_417 (by decide) ?_
  refine lv_iadd hx hb dL_law_418 ?_
  refine va_sld hx hb hX hbl hbA hw.2.2.2.1 (sc_in (j := 1) (J := 1) (by omega) (by decide) (by decide) (by omega)) dL_law_419 ?_
  refine W.eq (g2 := F0 m 420 ls [.int (xs (6 * k + 1)), .ref aX]) (by rw [sc_ix (J := 1) (by omega) (by decide) (by decide)]) ?_
  refine lv_aload_n hx hb dL_law_420 rfl (lv_at hl 3 rfl) ?_
  refine lv_iload_n hx hb dL_law_421 rfl (lv_at hl 0 rfl) ?_
  refine lv_iconst (v := 2) hx hb dL_law_422 (by decide) ?_
  refine lv_iadd hx hb dL_law_423 ?_
  refine va_sld hx hb hX hbl hbA hw.2.2.2.1 (sc_in (j := 2) (J := 2) (by omega) (by decide) (by decide) (by omega)) dL_law_424 ?_
  refine W.eq (g2 := F0 m 425 ls [.int (xs (6 * k + 2)), .int (xs (6 * k + 1)), .ref aX]) (by rw [sc_ix (J := 2) (by omega) (by decide) (by decide)]) ?_
  refine t_calli (va_runV (As := [.int (xs (6 * k + 1)), .int (xs (6 * k + 2))]) (rest := []) ⟨hx, hb, hml, hown, hts⟩ (t_X11_farm l dC dI tys κ B w hw.2.2.2.2 aX kX (xs (6 * k + 1)) (xs (6 * k + 2)) H.size) (cwV 2 hts (gUV tw_726 tw_727 tw_728 tw_1 tw_729) rfl rfl rfl (by decide +kernel) ⟨(Nat.le_of_ble_eq_true rfl), (Nat.le_of_ble_eq_true rfl)⟩) ⟨cPre.blind, t_recv hw (ci := 11) kX rfl rfl, cPre.use hw.2.1 hw.1 hw.2.2.1 hE⟩ rfl rfl hl.1 rfl (lv_room (Nat.le_of_ble_eq_true rfl)) dL_law_425 ⟨by show _ ≤ 600000; omega, by show _ ≤ 7302250; omega⟩) hw hA (fun _ _ h => h.1) (fun v425 w1 H locs hp hw => ?_)
  obtain ⟨_, hm⟩ := hp
  have hBX := hBX.sm hm (by decide) (by decide)
  have hMX := hMX.sm hm (by decide) (by decide)
  have hRT := hRT.sm hm (by decide) (by decide)
  have hDY := hDY.sm hm (by decide) (by decide)
  refine lv_pop hx hb dL_law_428 rfl ?_
  refine lv_aload_n hx hb dL_law_429 rfl (lv_at hl 1 rfl) ?_
  refine lv_aload_n hx hb dL_law_430 rfl (lv_at hl 3 rfl) ?_
  refine lv_iload_n hx hb dL_law_431 rfl (lv_at hl 0 rfl) ?_
  refine lv_iconst (v := 1) hx hb dL_law_432 (by decide) ?_
  refine lv_iadd hx hb dL_law_433 ?_
  refine va_sld hx hb hX hbl hbA hw.2.2.2.1 (sc_in (j := 1) (J := 1) (by omega) (by decide) (by decide) (by omega)) dL_law_434 ?_
  refine W.eq (g2 := F0 m 435 ls [.int (xs (6 * k + 1)), .ref aM]) (by rw [sc_ix (J := 1) (by omega) (by decide) (by decide)]) ?_
  refine lv_aload_n hx hb dL_law_435 rfl (lv_at hl 3 rfl) ?_
  refine lv_iload_n hx hb dL_law_436 rfl (lv_at hl 0 rfl) ?_
  refine lv_iconst (v := 2) hx hb dL_law_437 (by decide) ?_
  refine lv_iadd hx hb dL_law_438 ?_
  refine va_sld hx hb hX hbl hbA hw.2.2.2.1 (sc_in (j := 2) (J := 2) (by omega) (by decide) (by decide) (by omega)) dL_law_439 ?_
  refine W.eq (g2 := F0 m 440 ls [.int (xs (6 * k + 2)), .int (xs (6 * k + 1)), .ref aM]) (by rw [sc_ix (J := 2) (by omega) (by decide) (by decide)]) ?_
  refine t_calli (va_runV (As := [.int (xs (6 * k + 1)), .int (xs (6 * k + 2))]) (rest := []) ⟨hx, hb, hml, hown, hts⟩ (t_X12_farm l dC dI tys κ B w1 hw.2.2.2.2 aM kM (xs (6 * k + 1)) (xs (6 * k + 2)) H.size) (cwV 2 hts (gUV tw_1473 tw_1474 tw_1475 tw_13 tw_1476) rfl rfl rfl (by decide +kernel) ⟨(Nat.le_of_ble_eq_true rfl), (Nat.le_of_ble_eq_true rfl)⟩) ⟨cPre.blind, t_recv hw (ci := 12) kM rfl rfl, cPre.use hw.2.1 hw.1 hw.2.2.1 hE⟩ rfl rfl hl.1 rfl (lv_room (Nat.le_of_ble_eq_true rfl)) dL_law_440 ⟨by show _ ≤ 600000; omega, by show _ ≤ 7302250; omega⟩) hw hA (fun _ _ h => h.1) (fun v440 w2 H locs hp hw => ?_)
  obtain ⟨_, hm⟩ := hp
  have hBX := hBX.sm hm (by decide) (by decide)
  have hMX := hMX.sm hm (by decide) (by decide)
  have hRT := hRT.sm hm (by decide) (by decide)
  have hDY := hDY.sm hm (by decide) (by decide)
  refine lv_pop hx hb dL_law_443 rfl ?_
  refine lv_goto (tgt := 1119) hx hb dL_law_444 (by decide) ?_
  exact law_next C0 A hAe aX aM k cs sl hk hkk next H locs ls (by omega) (by omega) ⟨tys, κ, B, w2, x, ys, ms, hw, kX, kM, hBX, hMX, hRT, hDY, hl⟩
set_option maxHeartbeats 4000000 in
set_option maxRecDepth 100000 in
theorem law_case_9 {p : Program} {l : Launch} {e : Env} {s : State} {m : MethodId} {below : List Frame} {meth : Method} {c : Code} {dC : Nat → ClassId} {dI : Nat → Nat → Nat} {b L : Nat} {xs : Nat → Int32} {aK aV : Nat → Nat} (C0 : lw_At p s m meth c b L xs) (hE : gE s) (A : Nat → Prop) (hAe : A = fun q : Nat => s.heap.size ≤ q) (hStr : gS aK aV A s s.heap) (hR : gR aK s) (aX aM k cs sl : Nat) (hk : 6 * k + 6 ≤ L) (hkk : k ≤ 512) (hcs : cs + 11 ≤ 600000) (hsl : sl + 200 ≤ 7302250) (next : ∀ (H : Heap) (locs : List Loc) (ls : Array Slot), LInv (dC, dI) A s b aX aM (k + 1) H locs ls → W p l e room_1 s m #[Value.ref b] below meth c H locs (cs + 11) (sl + 200) (lw_Z below #[Value.ref b] s) (F0 m 18 ls [])) (H : Heap) (locs : List Loc) (ls : Array Slot) (hI : LInv (dC, dI) A s b aX aM k H locs ls) : W p l e room_1 s m #[Value.ref b] below meth c H locs cs sl (lw_Z below #[Value.ref b] s) (F0 m 447 ls []) := by
  obtain ⟨hx, hb, hr, hml, hown, hts0, hX, hbl, hlocks, hgv⟩ := id C0
  have hts : ∀ w ∈ gT, w.before #[Value.ref b] s = true := fun w h => hts0 w (gT_sub h)
  have hA : ∀ q : Nat, s.heap.size ≤ q → A q := by rw [hAe]; exact fun _ h => h
  have hbA : ¬ A b := by rw [hAe]; exact Nat.not_le.mpr hbl
  obtain ⟨tys, κ, B, w, x, ys, ms, hw, kX, kM, hBX, hMX, hRT, hDY, hl⟩ := hI
  refine lv_aload_n hx hb dL_law_447 rfl (lv_at hl 2 rfl) ?_
  refine t_calli (va_runV (As := []) (rest := []) ⟨hx, hb, hml, hown, hts⟩ (t_X11_day l dC dI tys κ B w hw.2.2.2.2 aX kX H.size) (cwV 0 hts (gUV tw_743 tw_744 tw_745 tw_1 tw_746) rfl rfl rfl (by decide +kernel) ⟨(Nat.le_of_ble_eq_true rfl), (Nat.le_of_ble_eq_true rfl)⟩) ⟨cPre.blind, t_recv hw (ci := 11) kX rfl rfl, cPre.use hw.2.1 hw.1 hw.2.2.1 hE⟩ rfl rfl hl.1 rfl (lv_room (Nat.le_of_ble_eq_true rfl)) dL_law_448 ⟨by show _ ≤ 600000; omega, by show _ ≤ 7302250; omega⟩) hw hA (fun _ _ h => h.2.2.1) (fun v448 w1 H locs hp hw => ?_)
  obtain ⟨_, _, _, hm⟩ := hp
  have hBX := hBX.sm hm (by decide) (by decide)
  have hMX := hMX.sm hm (by decide) (by decide)
  have hRT := hRT.sm hm (by decide) (by decide)
  have hDY := hDY.sm hm (by decide) (by decide)
  refine lv_pop hx hb dL_law_451 rfl ?_
  refine lv_aload_n hx hb dL_law_452 rfl (lv_at hl 1 rfl) ?_
  obtain ⟨sA, dd, y1, y2, y3, y4, y5⟩ := hDY
  refine t_calli (va_runV (As := []) (rest := []) ⟨hx, hb, hml, hown, hts⟩ (t_X12_day l dC dI tys κ B w1 hw.2.2.2.2 aM kM sA y2 y1 dd y4 y5 y3 hRT H.size) (cwV 0 hts (gUV tw_1485 tw_1486 tw_1487 tw_13 tw_1488) rfl rfl rfl (by decide +kernel) ⟨(Nat.le_of_ble_eq_true rfl), (Nat.le_of_ble_eq_true rfl)⟩) ⟨cPre.blind, t_recv hw (ci := 12) kM rfl rfl, cPre.use hw.2.1 hw.1 hw.2.2.1 hE⟩ rfl rfl hl.1 rfl (lv_room (Nat.le_of_ble_eq_true rfl)) dL_law_453 ⟨by show _ ≤ 600000; omega, by show _ ≤ 7302250; omega⟩) hw hA (fun _ _ h => h.2.2.1) (fun v453 w2 H locs hp hw => ?_)
  obtain ⟨_, _, _, hm, ⟨d1, l1, h1, e1⟩⟩ := hp
  have hBX := hBX.sm hm (by decide) (by decide)
  have hMX := hMX.sm hm (by decide) (by decide)
  have hRT := hRT.sm hm (by decide) (by decide)
  have hDY : DY κ w2 aM := ⟨sA, d1, hm.1 _ _ _ _ y1 (by decide), y2, e1, l1, h1⟩
  refine lv_pop hx hb dL_law_456 rfl ?_
  refine lv_goto (tgt := 1119) hx hb dL_law_457 (by decide) ?_
  exact law_next C0 A hAe aX aM k cs sl hk hkk next H locs ls (by omega) (by omega) ⟨tys, κ, B, w2, x, ys, ms, hw, kX, kM, hBX, hMX, hRT, hDY, hl⟩
set_option maxHeartbeats 4000000 in
set_option maxRecDepth 100000 in
theorem law_case_10 {p : Program} {l : Launch} {e : Env} {s : State} {m : MethodId} {below : List Frame} {meth : Method} {c : Code} {dC : Nat → ClassId} {dI : Nat → Nat → Nat} {b L : Nat} {xs : Nat → Int32} {aK aV : Nat → Nat} (C0 : lw_At p s m meth c b L xs) (hE : gE s) (A : Nat → Prop) (hAe : A = fun q : Nat => s.heap.size ≤ q) (hStr : gS aK aV A s s.heap) (hR : gR aK s) (aX aM k cs sl : Nat) (hk : 6 * k + 6 ≤ L) (hkk : k ≤ 512) (hcs : cs + 11 ≤ 600000) (hsl : sl + 200 ≤ 7302250) (next : ∀ (H : Heap) (locs : List Loc) (ls : Array Slot), LInv (dC, dI) A s b aX aM (k + 1) H locs ls → W p l e room_1 s m #[Value.ref b] below meth c H locs (cs + 11) (sl + 200) (lw_Z below #[Value.ref b] s) (F0 m 18 ls [])) (H : Heap) (locs : List Loc) (ls : Array Slot) (hI : LInv (dC, dI) A s b aX aM k H locs ls) : W p l e room_1 s m #[Value.ref b] below meth c H locs cs sl (lw_Z below #[Value.ref b] s) (F0 m 460 ls []) := by
  obtain ⟨hx, hb, hr, hml, hown, hts0, hX, hbl, hlocks, hgv⟩ := id C0
  have hts : ∀ w ∈ gT, w.before #[Value.ref b] s = true := fun w h => hts0 w (gT_sub h)
  have hA : ∀ q : Nat, s.heap.size ≤ q → A q := by rw [hAe]; exact fun _ h => h
  have hbA : ¬ A b := by rw [hAe]; exact Nat.not_le.mpr hbl
  obtain ⟨tys, κ, B, w, x, ys, ms, hw, kX, kM, hBX, hMX, hRT, hDY, hl⟩ := hI
  refine lv_aload_n hx hb dL_law_460 rfl (lv_at hl 2 rfl) ?_
  refine lv_aload_n hx hb dL_law_461 rfl (lv_at hl 3 rfl) ?_
  refine lv_iload_n hx hb dL_law_462 rfl (lv_at hl 0 rfl) ?_
  refine lv_iconst (v := 1) hx hb dL_law_463 (by decide) ?_
  refine lv_iadd hx hb dL_law_464 ?_
  refine va_sld hx hb hX hbl hbA hw.2.2.2.1 (sc_in (j := 1) (J := 1) (by omega) (by decide) (by decide) (by omega)) dL_law_465 ?_
  refine W.eq (g2 := F0 m 466 ls [.int (xs (6 * k + 1)), .ref aX]) (by rw [sc_ix (J := 1) (by omega) (by decide) (by decide)]) ?_
  refine t_calli (va_runV (As := [.int (xs (6 * k + 1))]) (rest := []) ⟨hx, hb, hml, hown, hts⟩ (t_X11_visit l dC dI tys κ B w hw.2.2.2.2 aX kX (xs (6 * k + 1)) H.size) (cwV 1 hts (gUV tw_841 tw_842 tw_843 tw_1 tw_844) rfl rfl rfl (by decide +kernel) ⟨(Nat.le_of_ble_eq_true rfl), (Nat.le_of_ble_eq_true rfl)⟩) ⟨cPre.blind, t_recv hw (ci := 11) kX rfl rfl, cPre.use hw.2.1 hw.1 hw.2.2.1 hE⟩ rfl rfl hl.1 rfl (lv_room (Nat.le_of_ble_eq_true rfl)) dL_law_466 ⟨by show _ ≤ 600000; omega, by show _ ≤ 7302250; omega⟩) hw hA (fun _ _ h => h.1) (fun v466 w1 H locs hp hw => ?_)
  obtain ⟨_, hm⟩ := hp
  have hBX := hBX.sm hm (by decide) (by decide)
  have hMX := hMX.sm hm (by decide) (by decide)
  have hRT := hRT.sm hm (by decide) (by decide)
  have hDY := hDY.sm hm (by decide) (by decide)
  refine lv_pop hx hb dL_law_469 rfl ?_
  refine lv_aload_n hx hb dL_law_470 rfl (lv_at hl 1 rfl) ?_
  refine lv_aload_n hx hb dL_law_471 rfl (lv_at hl 3 rfl) ?_
  refine lv_iload_n hx hb dL_law_472 rfl (lv_at hl 0 rfl) ?_
  refine lv_iconst (v := 1) hx hb dL_law_473 (by decide) ?_
  refine lv_iadd hx hb dL_law_474 ?_
  refine va_sld hx hb hX hbl hbA hw.2.2.2.1 (sc_in (j := 1) (J := 1) (by omega) (by decide) (by decide) (by omega)) dL_law_475 ?_
  refine W.eq (g2 := F0 m 476 ls [.int (xs (6 * k + 1)), .ref aM]) (by rw [sc_ix (J := 1) (by omega) (by decide) (by decide)]) ?_
  obtain ⟨sA, dd, y1, y2, y3, y4, y5⟩ := hDY
  refine t_calli (va_runV (As := [.int (xs (6 * k + 1))]) (rest := []) ⟨hx, hb, hml, hown, hts⟩ (t_X12_visit l dC dI tys κ B w1 hw.2.2.2.2 aM kM (xs (6 * k + 1)) sA y2 y1 dd y4 y5 y3 H.size) (cwV 1 hts (gUV tw_1575 tw_1576 tw_1577 tw_13 tw_1578) rfl rfl rfl (by decide +kernel) ⟨(Nat.le_of_ble_eq_true rfl), (Nat.le_of_ble_eq_true rfl)⟩) ⟨cPre.blind, t_recv hw (ci := 12) kM rfl rfl, cPre.use hw.2.1 hw.1 hw.2.2.1 hE⟩ rfl rfl hl.1 rfl (lv_room (Nat.le_of_ble_eq_true rfl)) dL_law_476 ⟨by show _ ≤ 600000; omega, by show _ ≤ 7302250; omega⟩) hw hA (fun _ _ h => h.1) (fun v476 w2 H locs hp hw => ?_)
  obtain ⟨_, hm, hxk⟩ := hp
  have hBX := hBX.sm hm (by decide) (by decide)
  have hMX := hMX.sm hm (by decide) (by decide)
  have hRT := hRT.sm hm (by decide) (by decide)
  have hDY : DY κ w2 aM := ⟨sA, dd, hm.1 _ _ _ _ y1 (by decide), y2, hxk, y4, y5⟩
  refine lv_pop hx hb dL_law_479 rfl ?_
  refine lv_goto (tgt := 1119) hx hb dL_law_480 (by decide) ?_
  exact law_next C0 A hAe aX aM k cs sl hk hkk next H locs ls (by omega) (by omega) ⟨tys, κ, B, w2, x, ys, ms, hw, kX, kM, hBX, hMX, hRT, hDY, hl⟩
set_option maxHeartbeats 4000000 in
set_option maxRecDepth 100000 in
theorem law_case_11 {p : Program} {l : Launch} {e : Env} {s : State} {m : MethodId} {below : List Frame} {meth : Method} {c : Code} {dC : Nat → ClassId} {dI : Nat → Nat → Nat} {b L : Nat} {xs : Nat → Int32} {aK aV : Nat → Nat} (C0 : lw_At p s m meth c b L xs) (hE : gE s) (A : Nat → Prop) (hAe : A = fun q : Nat => s.heap.size ≤ q) (hStr : gS aK aV A s s.heap) (hR : gR aK s) (aX aM k cs sl : Nat) (hk : 6 * k + 6 ≤ L) (hkk : k ≤ 512) (hcs : cs + 11 ≤ 600000) (hsl : sl + 200 ≤ 7302250) (next : ∀ (H : Heap) (locs : List Loc) (ls : Array Slot), LInv (dC, dI) A s b aX aM (k + 1) H locs ls → W p l e room_1 s m #[Value.ref b] below meth c H locs (cs + 11) (sl + 200) (lw_Z below #[Value.ref b] s) (F0 m 18 ls [])) (H : Heap) (locs : List Loc) (ls : Array Slot) (hI : LInv (dC, dI) A s b aX aM k H locs ls) : W p l e room_1 s m #[Value.ref b] below meth c H locs cs sl (lw_Z below #[Value.ref b] s) (F0 m 483 ls []) := by
  obtain ⟨hx, hb, hr, hml, hown, hts0, hX, hbl, hlocks, hgv⟩ := id C0
  have hts : ∀ w ∈ gT, w.before #[Value.ref b] s = true := fun w h => hts0 w (gT_sub h)
  have hA : ∀ q : Nat, s.heap.size ≤ q → A q := by rw [hAe]; exact fun _ h => h
  have hbA : ¬ A b := by rw [hAe]; exact Nat.not_le.mpr hbl
  obtain ⟨tys, κ, B, w, x, ys, ms, hw, kX, kM, hBX, hMX, hRT, hDY, hl⟩ := hI
  refine lv_aload_n hx hb dL_law_483 rfl (lv_at hl 2 rfl) ?_
  refine lv_aload_n hx hb dL_law_484 rfl (lv_at hl 3 rfl) ?_
  refine lv_iload_n hx hb dL_law_485 rfl (lv_at hl 0 rfl) ?_
  refine lv_iconst (v := 1) hx hb dL_law_486 (by decide) ?_
  refine lv_iadd hx hb dL_law_487 ?_
  refine va_sld hx hb hX hbl hbA hw.2.2.2.1 (sc_in (j := 1) (J := 1) (by omega) (by decide) (by decide) (by omega)) dL_law_488 ?_
  refine W.eq (g2 := F0 m 489 ls [.int (xs (6 * k + 1)), .ref aX]) (by rw [sc_ix (J := 1) (by omega) (by decide) (by decide)]) ?_
  refine lv_aload_n hx hb dL_law_489 rfl (lv_at hl 3 rfl) ?_
  refine lv_iload_n hx hb dL_law_490 rfl (lv_at hl 0 rfl) ?_
  refine lv_iconst (v := 2) hx hb dL_law_491 (by decide) ?_
  refine lv_iadd hx hb dL_law_492 ?_
  refine va_sld hx hb hX hbl hbA hw.2.2.2.1 (sc_in (j := 2) (J := 2) (by omega) (by decide) (by decide) (by omega)) dL_law_493 ?_
  refine W.eq (g2 := F0 m 494 ls [.int (xs (6 * k + 2)), .int (xs (6 * k + 1)), .ref aX]) (by rw [sc_ix (J := 2) (by omega) (by decide) (by decide)]) ?_
  refine t_calli (va_runV (As := [.int (xs (6 * k + 1)), .int (xs (6 * k + 2))]) (rest := []) ⟨hx, hb, hml, hown, hts⟩ (t_X11_promise l dC dI tys κ B w hw.2.2.2.2 aX kX (xs (6 * k + 1)) (xs (6 * k + 2)) H.size) (cwV 2 hts (gUV tw_862 tw_863 tw_864 tw_1 tw_865) rfl rfl rfl (by decide +kernel) ⟨(Nat.le_of_ble_eq_true rfl), (Nat.le_of_ble_eq_true rfl)⟩) ⟨cPre.blind, t_recv hw (ci := 11) kX rfl rfl, cPre.use hw.2.1 hw.1 hw.2.2.1 hE⟩ rfl rfl hl.1 rfl (lv_room (Nat.le_of_ble_eq_true rfl)) dL_law_494 ⟨by show _ ≤ 600000; omega, by show _ ≤ 7302250; omega⟩) hw hA (fun _ _ h => h.1) (fun v494 w1 H locs hp hw => ?_)
  obtain ⟨_, hm⟩ := hp
  have hBX := hBX.sm hm (by decide) (by decide)
  have hMX := hMX.sm hm (by decide) (by decide)
  have hRT := hRT.sm hm (by decide) (by decide)
  have hDY := hDY.sm hm (by decide) (by decide)
  refine lv_pop hx hb dL_law_497 rfl ?_
  refine lv_aload_n hx hb dL_law_498 rfl (lv_at hl 1 rfl) ?_
  refine lv_aload_n hx hb dL_law_499 rfl (lv_at hl 3 rfl) ?_
  refine lv_iload_n hx hb dL_law_500 rfl (lv_at hl 0 rfl) ?_
  refine lv_iconst (v := 1) hx hb dL_law_501 (by decide) ?_
  refine lv_iadd hx hb dL_law_502 ?_
  refine va_sld hx hb hX hbl hbA hw.2.2.2.1 (sc_in (j := 1) (J := 1) (by omega) (by decide) (by decide) (by omega)) dL_law_503 ?_
  refine W.eq (g2 := F0 m 504 ls [.int (xs (6 * k + 1)), .ref aM]) (by rw [sc_ix (J := 1) (by omega) (by decide) (by decide)]) ?_
  refine lv_aload_n hx hb dL_law_504 rfl (lv_at hl 3 rfl) ?_
  refine lv_iload_n hx hb dL_law_505 rfl (lv_at hl 0 rfl) ?_
  refine lv_iconst (v := 2) hx hb dL_law_506 (by decide) ?_
  refine lv_iadd hx hb dL_law_507 ?_
  refine va_sld hx hb hX hbl hbA hw.2.2.2.1 (sc_in (j := 2) (J := 2) (by omega) (by decide) (by decide) (by omega)) dL_law_508 ?_
  refine W.eq (g2 := F0 m 509 ls [.int (xs (6 * k + 2)), .int (xs (6 * k + 1)), .ref aM]) (by rw [sc_ix (J := 2) (by omega) (by decide) (by decide)]) ?_
  obtain ⟨sA, dd, y1, y2, y3, y4, y5⟩ := hDY
  refine t_calli (va_runV (As := [.int (xs (6 * k + 1)), .int (xs (6 * k + 2))]) (rest := []) ⟨hx, hb, hml, hown, hts⟩ (t_X12_promise l dC dI tys κ B w1 hw.2.2.2.2 aM kM (xs (6 * k + 1)) (xs (6 * k + 2)) sA y2 y1 dd y4 y5 y3 H.size) (cwV 2 hts (gUV tw_1579 tw_1580 tw_1581 tw_13 tw_1582) rfl rfl rfl (by decide +kernel) ⟨(Nat.le_of_ble_eq_true rfl), (Nat.le_of_ble_eq_true rfl)⟩) ⟨cPre.blind, t_recv hw (ci := 12) kM rfl rfl, cPre.use hw.2.1 hw.1 hw.2.2.1 hE⟩ rfl rfl hl.1 rfl (lv_room (Nat.le_of_ble_eq_true rfl)) dL_law_509 ⟨by show _ ≤ 600000; omega, by show _ ≤ 7302250; omega⟩) hw hA (fun _ _ h => h.1) (fun v509 w2 H locs hp hw => ?_)
  obtain ⟨_, hm, hxk⟩ := hp
  have hBX := hBX.sm hm (by decide) (by decide)
  have hMX := hMX.sm hm (by decide) (by decide)
  have hRT := hRT.sm hm (by decide) (by decide)
  have hDY : DY κ w2 aM := ⟨sA, dd, hm.1 _ _ _ _ y1 (by decide), y2, hxk, y4, y5⟩
  refine lv_pop hx hb dL_law_512 rfl ?_
  refine lv_goto (tgt := 1119) hx hb dL_law_513 (by decide) ?_
  exact law_next C0 A hAe aX aM k cs sl hk hkk next H locs ls (by omega) (by omega) ⟨tys, κ, B, w2, x, ys, ms, hw, kX, kM, hBX, hMX, hRT, hDY, hl⟩
set_option maxHeartbeats 4000000 in
set_option maxRecDepth 100000 in
theorem law_case_12 {p : Program} {l : Launch} {e : Env} {s : State} {m : MethodId} {below : List Frame} {meth : Method} {c : Code} {dC : Nat → ClassId} {dI : Nat → Nat → Nat} {b L : Nat} {xs : Nat → Int32} {aK aV : Nat → Nat} (C0 : lw_At p s m meth c b L xs) (hE : gE s) (A : Nat → Prop) (hAe : A = fun q : Nat => s.heap.size ≤ q) (hStr : gS aK aV A s s.heap) (hR : gR aK s) (aX aM k cs sl : Nat) (hk : 6 * k + 6 ≤ L) (hkk : k ≤ 512) (hcs : cs + 11 ≤ 600000) (hsl : sl + 200 ≤ 7302250) (next : ∀ (H : Heap) (locs : List Loc) (ls : Array Slot), LInv (dC, dI) A s b aX aM (k + 1) H locs ls → W p l e room_1 s m #[Value.ref b] below meth c H locs (cs + 11) (sl + 200) (lw_Z below #[Value.ref b] s) (F0 m 18 ls [])) (H : Heap) (locs : List Loc) (ls : Array Slot) (hI : LInv (dC, dI) A s b aX aM k H locs ls) : W p l e room_1 s m #[Value.ref b] below meth c H locs cs sl (lw_Z below #[Value.ref b] s) (F0 m 516 ls []) := by
  obtain ⟨hx, hb, hr, hml, hown, hts0, hX, hbl, hlocks, hgv⟩ := id C0
  have hts : ∀ w ∈ gT, w.before #[Value.ref b] s = true := fun w h => hts0 w (gT_sub h)
  have hA : ∀ q : Nat, s.heap.size ≤ q → A q := by rw [hAe]; exact fun _ h => h
  have hbA : ¬ A b := by rw [hAe]; exact Nat.not_le.mpr hbl
  obtain ⟨tys, κ, B, w, x, ys, ms, hw, kX, kM, hBX, hMX, hRT, hDY, hl⟩ := hI
  refine lv_aload_n hx hb dL_law_516 rfl (lv_at hl 2 rfl) ?_
  refine lv_aload_n hx hb dL_law_517 rfl (lv_at hl 3 rfl) ?_
  refine lv_iload_n hx hb dL_law_518 rfl (lv_at hl 0 rfl) ?_
  refine lv_iconst (v := 1) hx hb dL_law_519 (by decide) ?_
  refine lv_iadd hx hb dL_law_520 ?_
  refine va_sld hx hb hX hbl hbA hw.2.2.2.1 (sc_in (j := 1) (J := 1) (by omega) (by decide) (by decide) (by omega)) dL_law_521 ?_
  refine W.eq (g2 := F0 m 522 ls [.int (xs (6 * k + 1)), .ref aX]) (by rw [sc_ix (J := 1) (by omega) (by decide) (by decide)]) ?_
  refine lv_aload_n hx hb dL_law_522 rfl (lv_at hl 3 rfl) ?_
  refine lv_iload_n hx hb dL_law_523 rfl (lv_at hl 0 rfl) ?_
  refine lv_iconst (v := 2) hx hb dL_law_524 (by decide) ?_
  refine lv_iadd hx hb dL_law_525 ?_
  refine va_sld hx hb hX hbl hbA hw.2.2.2.1 (sc_in (j := 2) (J := 2) (by omega) (by decide) (by decide) (by omega)) dL_law_526 ?_
  refine W.eq (g2 := F0 m 527 ls [.int (xs (6 * k + 2)), .int (xs (6 * k + 1)), .ref aX]) (by rw [sc_ix (J := 2) (by omega) (by decide) (by decide)]) ?_
  refine t_calli (va_runV (As := [.int (xs (6 * k + 1)), .int (xs (6 * k + 2))]) (rest := []) ⟨hx, hb, hml, hown, hts⟩ (t_X11_give l dC dI tys κ B w hw.2.2.2.2 aX kX (xs (6 * k + 1)) (xs (6 * k + 2)) H.size) (cwV 2 hts (gUV tw_866 tw_867 tw_868 tw_1 tw_869) rfl rfl rfl (by decide +kernel) ⟨(Nat.le_of_ble_eq_true rfl), (Nat.le_of_ble_eq_true rfl)⟩) ⟨cPre.blind, t_recv hw (ci := 11) kX rfl rfl, cPre.use hw.2.1 hw.1 hw.2.2.1 hE⟩ rfl rfl hl.1 rfl (lv_room (Nat.le_of_ble_eq_true rfl)) dL_law_527 ⟨by show _ ≤ 600000; omega, by show _ ≤ 7302250; omega⟩) hw hA (fun _ _ h => h.1) (fun v527 w1 H locs hp hw => ?_)
  obtain ⟨_, hm⟩ := hp
  have hBX := hBX.sm hm (by decide) (by decide)
  have hMX := hMX.sm hm (by decide) (by decide)
  have hRT := hRT.sm hm (by decide) (by decide)
  have hDY := hDY.sm hm (by decide) (by decide)
  refine lv_pop hx hb dL_law_530 rfl ?_
  refine lv_aload_n hx hb dL_law_531 rfl (lv_at hl 1 rfl) ?_
  refine lv_aload_n hx hb dL_law_532 rfl (lv_at hl 3 rfl) ?_
  refine lv_iload_n hx hb dL_law_533 rfl (lv_at hl 0 rfl) ?_
  refine lv_iconst (v := 1) hx hb dL_law_534 (by decide) ?_
  refine lv_iadd hx hb dL_law_535 ?_
  refine va_sld hx hb hX hbl hbA hw.2.2.2.1 (sc_in (j := 1) (J := 1) (by omega) (by decide) (by decide) (by omega)) dL_law_536 ?_
  refine W.eq (g2 := F0 m 537 ls [.int (xs (6 * k + 1)), .ref aM]) (by rw [sc_ix (J := 1) (by omega) (by decide) (by decide)]) ?_
  refine lv_aload_n hx hb dL_law_537 rfl (lv_at hl 3 rfl) ?_
  refine lv_iload_n hx hb dL_law_538 rfl (lv_at hl 0 rfl) ?_
  refine lv_iconst (v := 2) hx hb dL_law_539 (by decide) ?_
  refine lv_iadd hx hb dL_law_540 ?_
  refine va_sld hx hb hX hbl hbA hw.2.2.2.1 (sc_in (j := 2) (J := 2) (by omega) (by decide) (by decide) (by omega)) dL_law_541 ?_
  refine W.eq (g2 := F0 m 542 ls [.int (xs (6 * k + 2)), .int (xs (6 * k + 1)), .ref aM]) (by rw [sc_ix (J := 2) (by omega) (by decide) (by decide)]) ?_
  obtain ⟨sA, dd, y1, y2, y3, y4, y5⟩ := hDY
  refine t_calli (va_runV (As := [.int (xs (6 * k + 1)), .int (xs (6 * k + 2))]) (rest := []) ⟨hx, hb, hml, hown, hts⟩ (t_X12_give l dC dI tys κ B w1 hw.2.2.2.2 aM kM (xs (6 * k + 1)) (xs (6 * k + 2)) sA y2 y1 dd y4 y5 y3 H.size) (cwV 2 hts (gUV tw_1584 tw_1585 tw_1586 tw_13 tw_1587) rfl rfl rfl (by decide +kernel) ⟨(Nat.le_of_ble_eq_true rfl), (Nat.le_of_ble_eq_true rfl)⟩) ⟨cPre.blind, t_recv hw (ci := 12) kM rfl rfl, cPre.use hw.2.1 hw.1 hw.2.2.1 hE⟩ rfl rfl hl.1 rfl (lv_room (Nat.le_of_ble_eq_true rfl)) dL_law_542 ⟨by show _ ≤ 600000; omega, by show _ ≤ 7302250; omega⟩) hw hA (fun _ _ h => h.1) (fun v542 w2 H locs hp hw => ?_)
  obtain ⟨_, hm, hxk⟩ := hp
  have hBX := hBX.sm hm (by decide) (by decide)
  have hMX := hMX.sm hm (by decide) (by decide)
  have hRT := hRT.sm hm (by decide) (by decide)
  have hDY : DY κ w2 aM := ⟨sA, dd, hm.1 _ _ _ _ y1 (by decide), y2, hxk, y4, y5⟩
  refine lv_pop hx hb dL_law_545 rfl ?_
  refine lv_goto (tgt := 1119) hx hb dL_law_546 (by decide) ?_
  exact law_next C0 A hAe aX aM k cs sl hk hkk next H locs ls (by omega) (by omega) ⟨tys, κ, B, w2, x, ys, ms, hw, kX, kM, hBX, hMX, hRT, hDY, hl⟩
set_option maxHeartbeats 4000000 in
set_option maxRecDepth 100000 in
theorem law_case_13 {p : Program} {l : Launch} {e : Env} {s : State} {m : MethodId} {below : List Frame} {meth : Method} {c : Code} {dC : Nat → ClassId} {dI : Nat → Nat → Nat} {b L : Nat} {xs : Nat → Int32} {aK aV : Nat → Nat} (C0 : lw_At p s m meth c b L xs) (hE : gE s) (A : Nat → Prop) (hAe : A = fun q : Nat => s.heap.size ≤ q) (hStr : gS aK aV A s s.heap) (hR : gR aK s) (aX aM k cs sl : Nat) (hk : 6 * k + 6 ≤ L) (hkk : k ≤ 512) (hcs : cs + 11 ≤ 600000) (hsl : sl + 200 ≤ 7302250) (next : ∀ (H : Heap) (locs : List Loc) (ls : Array Slot), LInv (dC, dI) A s b aX aM (k + 1) H locs ls → W p l e room_1 s m #[Value.ref b] below meth c H locs (cs + 11) (sl + 200) (lw_Z below #[Value.ref b] s) (F0 m 18 ls [])) (H : Heap) (locs : List Loc) (ls : Array Slot) (hI : LInv (dC, dI) A s b aX aM k H locs ls) : W p l e room_1 s m #[Value.ref b] below meth c H locs cs sl (lw_Z below #[Value.ref b] s) (F0 m 549 ls []) := by
  obtain ⟨hx, hb, hr, hml, hown, hts0, hX, hbl, hlocks, hgv⟩ := id C0
  have hts : ∀ w ∈ gT, w.before #[Value.ref b] s = true := fun w h => hts0 w (gT_sub h)
  have hA : ∀ q : Nat, s.heap.size ≤ q → A q := by rw [hAe]; exact fun _ h => h
  have hbA : ¬ A b := by rw [hAe]; exact Nat.not_le.mpr hbl
  obtain ⟨tys, κ, B, w, x, ys, ms, hw, kX, kM, hBX, hMX, hRT, hDY, hl⟩ := hI
  refine lv_aload_n hx hb dL_law_549 rfl (lv_at hl 2 rfl) ?_
  refine lv_aload_n hx hb dL_law_550 rfl (lv_at hl 3 rfl) ?_
  refine lv_iload_n hx hb dL_law_551 rfl (lv_at hl 0 rfl) ?_
  refine lv_iconst (v := 1) hx hb dL_law_552 (by decide) ?_
  refine lv_iadd hx hb dL_law_553 ?_
  refine va_sld hx hb hX hbl hbA hw.2.2.2.1 (sc_in (j := 1) (J := 1) (by omega) (by decide) (by decide) (by omega)) dL_law_554 ?_
  refine W.eq (g2 := F0 m 555 ls [.int (xs (6 * k + 1)), .ref aX]) (by rw [sc_ix (J := 1) (by omega) (by decide) (by decide)]) ?_
  refine t_calli (va_runV (As := [.int (xs (6 * k + 1))]) (rest := []) ⟨hx, hb, hml, hown, hts⟩ (t_X11_breaks l dC dI tys κ B w hw.2.2.2.2 aX kX (xs (6 * k + 1)) H.size) (cwV 1 hts (gUV tw_874 tw_875 tw_876 tw_1 tw_877) rfl rfl rfl (by decide +kernel) ⟨(Nat.le_of_ble_eq_true rfl), (Nat.le_of_ble_eq_true rfl)⟩) ⟨cPre.blind, t_recv hw (ci := 11) kX rfl rfl, cPre.use hw.2.1 hw.1 hw.2.2.1 hE⟩ rfl rfl hl.1 rfl (lv_room (Nat.le_of_ble_eq_true rfl)) dL_law_555 ⟨by show _ ≤ 600000; omega, by show _ ≤ 7302250; omega⟩) hw hA (fun _ _ h => h.1) (fun v555 w1 H locs hp hw => ?_)
  obtain ⟨_, hm⟩ := hp
  have hBX := hBX.sm hm (by decide) (by decide)
  have hMX := hMX.sm hm (by decide) (by decide)
  have hRT := hRT.sm hm (by decide) (by decide)
  have hDY := hDY.sm hm (by decide) (by decide)
  refine lv_pop hx hb dL_law_558 rfl ?_
  refine lv_aload_n hx hb dL_law_559 rfl (lv_at hl 1 rfl) ?_
  refine lv_aload_n hx hb dL_law_560 rfl (lv_at hl 3 rfl) ?_
  refine lv_iload_n hx hb dL_law_561 rfl (lv_at hl 0 rfl) ?_
  refine lv_iconst (v := 1) hx hb dL_law_562 (by decide) ?_
  refine lv_iadd hx hb dL_law_563 ?_
  refine va_sld hx hb hX hbl hbA hw.2.2.2.1 (sc_in (j := 1) (J := 1) (by omega) (by decide) (by decide) (by omega)) dL_law_564 ?_
  refine W.eq (g2 := F0 m 565 ls [.int (xs (6 * k + 1)), .ref aM]) (by rw [sc_ix (J := 1) (by omega) (by decide) (by decide)]) ?_
  obtain ⟨sA, dd, y1, y2, y3, y4, y5⟩ := hDY
  refine t_calli (va_runV (As := [.int (xs (6 * k + 1))]) (rest := []) ⟨hx, hb, hml, hown, hts⟩ (t_X12_breaks l dC dI tys κ B w1 hw.2.2.2.2 aM kM (xs (6 * k + 1)) sA y2 y1 dd y4 y5 y3 H.size) (cwV 1 hts (gUV tw_1588 tw_1589 tw_1590 tw_13 tw_1591) rfl rfl rfl (by decide +kernel) ⟨(Nat.le_of_ble_eq_true rfl), (Nat.le_of_ble_eq_true rfl)⟩) ⟨cPre.blind, t_recv hw (ci := 12) kM rfl rfl, cPre.use hw.2.1 hw.1 hw.2.2.1 hE⟩ rfl rfl hl.1 rfl (lv_room (Nat.le_of_ble_eq_true rfl)) dL_law_565 ⟨by show _ ≤ 600000; omega, by show _ ≤ 7302250; omega⟩) hw hA (fun _ _ h => h.1) (fun v565 w2 H locs hp hw => ?_)
  obtain ⟨_, hm, hxk⟩ := hp
  have hBX := hBX.sm hm (by decide) (by decide)
  have hMX := hMX.sm hm (by decide) (by decide)
  have hRT := hRT.sm hm (by decide) (by decide)
  have hDY : DY κ w2 aM := ⟨sA, dd, hm.1 _ _ _ _ y1 (by decide), y2, hxk, y4, y5⟩
  refine lv_pop hx hb dL_law_568 rfl ?_
  refine lv_goto (tgt := 1119) hx hb dL_law_569 (by decide) ?_
  exact law_next C0 A hAe aX aM k cs sl hk hkk next H locs ls (by omega) (by omega) ⟨tys, κ, B, w2, x, ys, ms, hw, kX, kM, hBX, hMX, hRT, hDY, hl⟩
set_option maxHeartbeats 4000000 in
set_option maxRecDepth 100000 in
theorem law_case_14 {p : Program} {l : Launch} {e : Env} {s : State} {m : MethodId} {below : List Frame} {meth : Method} {c : Code} {dC : Nat → ClassId} {dI : Nat → Nat → Nat} {b L : Nat} {xs : Nat → Int32} {aK aV : Nat → Nat} (C0 : lw_At p s m meth c b L xs) (hE : gE s) (A : Nat → Prop) (hAe : A = fun q : Nat => s.heap.size ≤ q) (hStr : gS aK aV A s s.heap) (hR : gR aK s) (aX aM k cs sl : Nat) (hk : 6 * k + 6 ≤ L) (hkk : k ≤ 512) (hcs : cs + 11 ≤ 600000) (hsl : sl + 200 ≤ 7302250) (next : ∀ (H : Heap) (locs : List Loc) (ls : Array Slot), LInv (dC, dI) A s b aX aM (k + 1) H locs ls → W p l e room_1 s m #[Value.ref b] below meth c H locs (cs + 11) (sl + 200) (lw_Z below #[Value.ref b] s) (F0 m 18 ls [])) (H : Heap) (locs : List Loc) (ls : Array Slot) (hI : LInv (dC, dI) A s b aX aM k H locs ls) : W p l e room_1 s m #[Value.ref b] below meth c H locs cs sl (lw_Z below #[Value.ref b] s) (F0 m 572 ls []) := by
  obtain ⟨hx, hb, hr, hml, hown, hts0, hX, hbl, hlocks, hgv⟩ := id C0
  have hts : ∀ w ∈ gT, w.before #[Value.ref b] s = true := fun w h => hts0 w (gT_sub h)
  have hA : ∀ q : Nat, s.heap.size ≤ q → A q := by rw [hAe]; exact fun _ h => h
  have hbA : ¬ A b := by rw [hAe]; exact Nat.not_le.mpr hbl
  obtain ⟨tys, κ, B, w, x, ys, ms, hw, kX, kM, hBX, hMX, hRT, hDY, hl⟩ := hI
  refine lv_aload_n hx hb dL_law_572 rfl (lv_at hl 2 rfl) ?_
  refine t_calli (va_runV (As := []) (rest := []) ⟨hx, hb, hml, hown, hts⟩ (t_X11_undo l dC dI tys κ B w hw.2.2.2.2 aX kX H.size) (cwV 0 hts (gUV tw_882 tw_883 tw_884 tw_1 tw_885) rfl rfl rfl (by decide +kernel) ⟨(Nat.le_of_ble_eq_true rfl), (Nat.le_of_ble_eq_true rfl)⟩) ⟨cPre.blind, t_recv hw (ci := 11) kX rfl rfl, cPre.use hw.2.1 hw.1 hw.2.2.1 hE⟩ rfl rfl hl.1 rfl (lv_room (Nat.le_of_ble_eq_true rfl)) dL_law_573 ⟨by show _ ≤ 600000; omega, by show _ ≤ 7302250; omega⟩) hw hA (fun _ _ h => h.1) (fun v573 w1 H locs hp hw => ?_)
  obtain ⟨_, hm⟩ := hp
  have hBX := hBX.sm hm (by decide) (by decide)
  have hMX := hMX.sm hm (by decide) (by decide)
  have hRT := hRT.sm hm (by decide) (by decide)
  have hDY := hDY.sm hm (by decide) (by decide)
  refine lv_pop hx hb dL_law_576 rfl ?_
  refine lv_aload_n hx hb dL_law_577 rfl (lv_at hl 1 rfl) ?_
  obtain ⟨sA, dd, y1, y2, y3, y4, y5⟩ := hDY
  refine t_calli (va_runV (As := []) (rest := []) ⟨hx, hb, hml, hown, hts⟩ (t_X12_undo l dC dI tys κ B w1 hw.2.2.2.2 aM kM sA y2 y1 dd y4 y5 y3 H.size) (cwV 0 hts (gUV tw_1481 tw_1482 tw_1483 tw_13 tw_1484) rfl rfl rfl (by decide +kernel) ⟨(Nat.le_of_ble_eq_true rfl), (Nat.le_of_ble_eq_true rfl)⟩) ⟨cPre.blind, t_recv hw (ci := 12) kM rfl rfl, cPre.use hw.2.1 hw.1 hw.2.2.1 hE⟩ rfl rfl hl.1 rfl (lv_room (Nat.le_of_ble_eq_true rfl)) dL_law_578 ⟨by show _ ≤ 600000; omega, by show _ ≤ 7302250; omega⟩) hw hA (fun _ _ h => h.2.2.1) (fun v578 w2 H locs hp hw => ?_)
  obtain ⟨_, _, _, hm, ⟨d1, l1, h1, e1⟩⟩ := hp
  have hBX := hBX.sm hm (by decide) (by decide)
  have hMX := hMX.sm hm (by decide) (by decide)
  have hRT := hRT.sm hm (by decide) (by decide)
  have hDY : DY κ w2 aM := ⟨sA, d1, hm.1 _ _ _ _ y1 (by decide), y2, e1, l1, h1⟩
  refine lv_pop hx hb dL_law_581 rfl ?_
  refine lv_goto (tgt := 1119) hx hb dL_law_582 (by decide) ?_
  exact law_next C0 A hAe aX aM k cs sl hk hkk next H locs ls (by omega) (by omega) ⟨tys, κ, B, w2, x, ys, ms, hw, kX, kM, hBX, hMX, hRT, hDY, hl⟩
set_option maxHeartbeats 4000000 in
set_option maxRecDepth 100000 in
theorem law_case_15 {p : Program} {l : Launch} {e : Env} {s : State} {m : MethodId} {below : List Frame} {meth : Method} {c : Code} {dC : Nat → ClassId} {dI : Nat → Nat → Nat} {b L : Nat} {xs : Nat → Int32} {aK aV : Nat → Nat} (C0 : lw_At p s m meth c b L xs) (hE : gE s) (A : Nat → Prop) (hAe : A = fun q : Nat => s.heap.size ≤ q) (hStr : gS aK aV A s s.heap) (hR : gR aK s) (aX aM k cs sl : Nat) (hk : 6 * k + 6 ≤ L) (hkk : k ≤ 512) (hcs : cs + 11 ≤ 600000) (hsl : sl + 200 ≤ 7302250) (next : ∀ (H : Heap) (locs : List Loc) (ls : Array Slot), LInv (dC, dI) A s b aX aM (k + 1) H locs ls → W p l e room_1 s m #[Value.ref b] below meth c H locs (cs + 11) (sl + 200) (lw_Z below #[Value.ref b] s) (F0 m 18 ls [])) (H : Heap) (locs : List Loc) (ls : Array Slot) (hI : LInv (dC, dI) A s b aX aM k H locs ls) : W p l e room_1 s m #[Value.ref b] below meth c H locs cs sl (lw_Z below #[Value.ref b] s) (F0 m 585 ls []) := by
  obtain ⟨hx, hb, hr, hml, hown, hts0, hX, hbl, hlocks, hgv⟩ := id C0
  have hts : ∀ w ∈ gT, w.before #[Value.ref b] s = true := fun w h => hts0 w (gT_sub h)
  have hA : ∀ q : Nat, s.heap.size ≤ q → A q := by rw [hAe]; exact fun _ h => h
  have hbA : ¬ A b := by rw [hAe]; exact Nat.not_le.mpr hbl
  obtain ⟨tys, κ, B, w, x, ys, ms, hw, kX, kM, hBX, hMX, hRT, hDY, hl⟩ := hI
  refine lv_aload_n hx hb dL_law_585 rfl (lv_at hl 2 rfl) ?_
  refine lv_aload_n hx hb dL_law_586 rfl (lv_at hl 3 rfl) ?_
  refine lv_iload_n hx hb dL_law_587 rfl (lv_at hl 0 rfl) ?_
  refine lv_iconst (v := 1) hx hb dL_law_588 (by decide) ?_
  refine lv_iadd hx hb dL_law_589 ?_
  refine va_sld hx hb hX hbl hbA hw.2.2.2.1 (sc_in (j := 1) (J := 1) (by omega) (by decide) (by decide) (by omega)) dL_law_590 ?_
  refine W.eq (g2 := F0 m 591 ls [.int (xs (6 * k + 1)), .ref aX]) (by rw [sc_ix (J := 1) (by omega) (by decide) (by decide)]) ?_
  refine lv_aload_n hx hb dL_law_591 rfl (lv_at hl 3 rfl) ?_
  refine lv_iload_n hx hb dL_law_592 rfl (lv_at hl 0 rfl) ?_
  refine lv_iconst (v := 2) hx hb dL_law_593 (by decide) ?_
  refine lv_iadd hx hb dL_law_594 ?_
  refine va_sld hx hb hX hbl hbA hw.2.2.2.1 (sc_in (j := 2) (J := 2) (by omega) (by decide) (by decide) (by omega)) dL_law_595 ?_
  refine W.eq (g2 := F0 m 596 ls [.int (xs (6 * k + 2)), .int (xs (6 * k + 1)), .ref aX]) (by rw [sc_ix (J := 2) (by omega) (by decide) (by decide)]) ?_
  refine lv_aload_n hx hb dL_law_596 rfl (lv_at hl 3 rfl) ?_
  refine lv_iload_n hx hb dL_law_597 rfl (lv_at hl 0 rfl) ?_
  refine lv_iconst (v := 3) hx hb dL_law_598 (by decide) ?_
  refine lv_iadd hx hb dL_law_599 ?_
  refine va_sld hx hb hX hbl hbA hw.2.2.2.1 (sc_in (j := 3) (J := 3) (by omega) (by decide) (by decide) (by omega)) dL_law_600 ?_
  refine W.eq (g2 := F0 m 601 ls [.int (xs (6 * k + 3)), .int (xs (6 * k + 2)), .int (xs (6 * k + 1)), .ref aX]) (by rw [sc_ix (J := 3) (by omega) (by decide) (by decide)]) ?_
  refine t_calli (va_runV (As := [.int (xs (6 * k + 1)), .int (xs (6 * k + 2)), .int (xs (6 * k + 3))]) (rest := []) ⟨hx, hb, hml, hown, hts⟩ (t_X11_ahead l dC dI tys κ B w hw.2.2.2.2 aX kX (xs (6 * k + 1)) (xs (6 * k + 2)) (xs (6 * k + 3)) H.size) (cwV 3 hts (gUV tw_890 tw_891 tw_892 tw_1 tw_893) rfl rfl rfl (by decide +kernel) ⟨(Nat.le_of_ble_eq_true rfl), (Nat.le_of_ble_eq_true rfl)⟩) ⟨cPre.blind, t_recv hw (ci := 11) kX rfl rfl, cPre.use hw.2.1 hw.1 hw.2.2.1 hE⟩ rfl rfl hl.1 rfl (lv_room (Nat.le_of_ble_eq_true rfl)) dL_law_601 ⟨by show _ ≤ 600000; omega, by show _ ≤ 7302250; omega⟩) hw hA (fun _ _ h => h.1) (fun v601 w1 H locs hp hw => ?_)
  obtain ⟨_, hm⟩ := hp
  have hBX := hBX.sm hm (by decide) (by decide)
  have hMX := hMX.sm hm (by decide) (by decide)
  have hRT := hRT.sm hm (by decide) (by decide)
  have hDY := hDY.sm hm (by decide) (by decide)
  refine lv_pop hx hb dL_law_604 rfl ?_
  refine lv_aload_n hx hb dL_law_605 rfl (lv_at hl 1 rfl) ?_
  refine lv_aload_n hx hb dL_law_606 rfl (lv_at hl 3 rfl) ?_
  refine lv_iload_n hx hb dL_law_607 rfl (lv_at hl 0 rfl) ?_
  refine lv_iconst (v := 1) hx hb dL_law_608 (by decide) ?_
  refine lv_iadd hx hb dL_law_609 ?_
  refine va_sld hx hb hX hbl hbA hw.2.2.2.1 (sc_in (j := 1) (J := 1) (by omega) (by decide) (by decide) (by omega)) dL_law_610 ?_
  refine W.eq (g2 := F0 m 611 ls [.int (xs (6 * k + 1)), .ref aM]) (by rw [sc_ix (J := 1) (by omega) (by decide) (by decide)]) ?_
  refine lv_aload_n hx hb dL_law_611 rfl (lv_at hl 3 rfl) ?_
  refine lv_iload_n hx hb dL_law_612 rfl (lv_at hl 0 rfl) ?_
  refine lv_iconst (v := 2) hx hb dL_law_613 (by decide) ?_
  refine lv_iadd hx hb dL_law_614 ?_
  refine va_sld hx hb hX hbl hbA hw.2.2.2.1 (sc_in (j := 2) (J := 2) (by omega) (by decide) (by decide) (by omega)) dL_law_615 ?_
  refine W.eq (g2 := F0 m 616 ls [.int (xs (6 * k + 2)), .int (xs (6 * k + 1)), .ref aM]) (by rw [sc_ix (J := 2) (by omega) (by decide) (by decide)]) ?_
  refine lv_aload_n hx hb dL_law_616 rfl (lv_at hl 3 rfl) ?_
  refine lv_iload_n hx hb dL_law_617 rfl (lv_at hl 0 rfl) ?_
  refine lv_iconst (v := 3) hx hb dL_law_618 (by decide) ?_
  refine lv_iadd hx hb dL_law_619 ?_
  refine va_sld hx hb hX hbl hbA hw.2.2.2.1 (sc_in (j := 3) (J := 3) (by omega) (by decide) (by decide) (by omega)) dL_law_620 ?_
  refine W.eq (g2 := F0 m 621 ls [.int (xs (6 * k + 3)), .int (xs (6 * k + 2)), .int (xs (6 * k + 1)), .ref aM]) (by rw [sc_ix (J := 3) (by omega) (by decide) (by decide)]) ?_
  obtain ⟨sA, dd, y1, y2, y3, y4, y5⟩ := hDY
  refine t_calli (va_runV (As := [.int (xs (6 * k + 1)), .int (xs (6 * k + 2)), .int (xs (6 * k + 3))]) (rest := []) ⟨hx, hb, hml, hown, hts⟩ (t_X12_ahead l dC dI tys κ B w1 hw.2.2.2.2 aM kM (xs (6 * k + 1)) (xs (6 * k + 2)) (xs (6 * k + 3)) sA y2 y1 dd y4 y5 y3 hRT H.size) (cwV 3 hts (gUV tw_1592 tw_1593 tw_1594 tw_13 tw_1595) rfl rfl rfl (by decide +kernel) ⟨(Nat.le_of_ble_eq_true rfl), (Nat.le_of_ble_eq_true rfl)⟩) ⟨cPre.blind, t_recv hw (ci := 12) kM rfl rfl, cPre.use hw.2.1 hw.1 hw.2.2.1 hE⟩ rfl rfl hl.1 rfl (lv_room (Nat.le_of_ble_eq_true rfl)) dL_law_621 ⟨by show _ ≤ 600000; omega, by show _ ≤ 7302250; omega⟩) hw hA (fun _ _ h => h.1) (fun v621 w2 H locs hp hw => ?_)
  obtain ⟨_, hm, ⟨d1, l1, h1, e1⟩⟩ := hp
  have hBX := hBX.sm hm (by decide) (by decide)
  have hMX := hMX.sm hm (by decide) (by decide)
  have hRT := hRT.sm hm (by decide) (by decide)
  have hDY : DY κ w2 aM := ⟨sA, d1, hm.1 _ _ _ _ y1 (by decide), y2, e1, l1, h1⟩
  refine lv_pop hx hb dL_law_624 rfl ?_
  refine lv_goto (tgt := 1119) hx hb dL_law_625 (by decide) ?_
  exact law_next C0 A hAe aX aM k cs sl hk hkk next H locs ls (by omega) (by omega) ⟨tys, κ, B, w2, x, ys, ms, hw, kX, kM, hBX, hMX, hRT, hDY, hl⟩
