theorem tw_1002 : (Jvm.Cond.methodLink "BoyBishopLaw" (110 : Nat) ({ cls := "BoyBishop", name := "likely", desc := "(II)I" } : Jvm.MethodName)) ∈ gT := gT_in (List.mem_append_right _ (List.mem_append_right _ (List.mem_append_right _ (List.mem_append_right _ (List.mem_append_right _ (List.mem_append_left _ (List.mem_of_getElem? (i := 42) rfl))))))) rfl
theorem tw_1003 : (Jvm.Cond.instanceMethod ({ cls := "BoyBishop", name := "likely", desc := "(II)I" } : Jvm.MethodName)) ∈ gT := gT_in (List.mem_append_right _ (List.mem_append_right _ (List.mem_append_right _ (List.mem_append_right _ (List.mem_append_right _ (List.mem_append_left _ (List.mem_of_getElem? (i := 43) rfl))))))) rfl
theorem tw_1004 : (Jvm.Cond.selects "BoyBishop" ({ cls := "BoyBishop", name := "likely", desc := "(II)I" } : Jvm.MethodName) ({ cls := "BoyBishop", name := "likely", desc := "(II)I" } : Jvm.MethodName)) ∈ gT := gT_in (List.mem_append_right _ (List.mem_append_right _ (List.mem_append_right _ (List.mem_append_right _ (List.mem_append_right _ (List.mem_append_left _ (List.mem_of_getElem? (i := 44) rfl))))))) rfl
theorem tw_1005 : (Jvm.Cond.code ({ cls := "BoyBishop", name := "likely", desc := "(II)I" } : Jvm.MethodName) prog_1_method_29_code (5 : Nat) (Option.some Jvm.ClassFile.FieldType.int)) ∈ gT := gT_in (List.mem_append_right _ (List.mem_append_right _ (List.mem_append_right _ (List.mem_append_right _ (List.mem_append_right _ (List.mem_append_left _ (List.mem_of_getElem? (i := 45) rfl))))))) rfl
theorem tw_1007 : (Jvm.Cond.methodLink "BoyBishopLaw" (114 : Nat) ({ cls := "BoyBishop", name := "best", desc := "(I)I" } : Jvm.MethodName)) ∈ gT := gT_in (List.mem_append_right _ (List.mem_append_right _ (List.mem_append_right _ (List.mem_append_right _ (List.mem_append_right _ (List.mem_append_left _ (List.mem_of_getElem? (i := 47) rfl))))))) rfl
theorem tw_1008 : (Jvm.Cond.instanceMethod ({ cls := "BoyBishop", name := "best", desc := "(I)I" } : Jvm.MethodName)) ∈ gT := gT_in (List.mem_append_right _ (List.mem_append_right _ (List.mem_append_right _ (List.mem_append_right _ (List.mem_append_right _ (List.mem_append_left _ (List.mem_of_getElem? (i := 48) rfl))))))) rfl
theorem tw_1009 : (Jvm.Cond.selects "BoyBishop" ({ cls := "BoyBishop", name := "best", desc := "(I)I" } : Jvm.MethodName) ({ cls := "BoyBishop", name := "best", desc := "(I)I" } : Jvm.MethodName)) ∈ gT := gT_in (List.mem_append_right _ (List.mem_append_right _ (List.mem_append_right _ (List.mem_append_right _ (List.mem_append_right _ (List.mem_append_left _ (List.mem_of_getElem? (i := 49) rfl))))))) rfl
theorem tw_1010 : (Jvm.Cond.code ({ cls := "BoyBishop", name := "best", desc := "(I)I" } : Jvm.MethodName) prog_1_method_30_code (3 : Nat) (Option.some Jvm.ClassFile.FieldType.int)) ∈ gT := gT_in (List.mem_append_right _ (List.mem_append_right _ (List.mem_append_right _ (List.mem_append_right _ (List.mem_append_right _ (List.mem_append_left _ (List.mem_of_getElem? (i := 50) rfl))))))) rfl
theorem tw_1015 : (Jvm.Cond.methodLink "BoyBishopLaw" (118 : Nat) ({ cls := "BoyBishop", name := "note", desc := "(II)I" } : Jvm.MethodName)) ∈ gT := gT_in (List.mem_append_right _ (List.mem_append_right _ (List.mem_append_right _ (List.mem_append_right _ (List.mem_append_right _ (List.mem_append_left _ (List.mem_of_getElem? (i := 55) rfl))))))) rfl
theorem tw_1016 : (Jvm.Cond.instanceMethod ({ cls := "BoyBishop", name := "note", desc := "(II)I" } : Jvm.MethodName)) ∈ gT := gT_in (List.mem_append_right _ (List.mem_append_right _ (List.mem_append_right _ (List.mem_append_right _ (List.mem_append_right _ (List.mem_append_left _ (List.mem_of_getElem? (i := 56) rfl))))))) rfl
theorem tw_1017 : (Jvm.Cond.selects "BoyBishop" ({ cls := "BoyBishop", name := "note", desc := "(II)I" } : Jvm.MethodName) ({ cls := "BoyBishop", name := "note", desc := "(II)I" } : Jvm.MethodName)) ∈ gT := gT_in (List.mem_append_right _ (List.mem_append_right _ (List.mem_append_right _ (List.mem_append_right _ (List.mem_append_right _ (List.mem_append_left _ (List.mem_of_getElem? (i := 57) rfl))))))) rfl
theorem tw_1018 : (Jvm.Cond.code ({ cls := "BoyBishop", name := "note", desc := "(II)I" } : Jvm.MethodName) prog_1_method_32_code (3 : Nat) (Option.some Jvm.ClassFile.FieldType.int)) ∈ gT := gT_in (List.mem_append_right _ (List.mem_append_right _ (List.mem_append_right _ (List.mem_append_right _ (List.mem_append_right _ (List.mem_append_left _ (List.mem_of_getElem? (i := 58) rfl))))))) rfl
theorem tw_1019 : (Jvm.Cond.methodLink "BoyBishopLaw" (122 : Nat) ({ cls := "BoyBishop", name := "ruled", desc := "(I)I" } : Jvm.MethodName)) ∈ gT := gT_in (List.mem_append_right _ (List.mem_append_right _ (List.mem_append_right _ (List.mem_append_right _ (List.mem_append_right _ (List.mem_append_left _ (List.mem_of_getElem? (i := 59) rfl))))))) rfl
theorem tw_1020 : (Jvm.Cond.instanceMethod ({ cls := "BoyBishop", name := "ruled", desc := "(I)I" } : Jvm.MethodName)) ∈ gT := gT_in (List.mem_append_right _ (List.mem_append_right _ (List.mem_append_right _ (List.mem_append_right _ (List.mem_append_right _ (List.mem_append_left _ (List.mem_of_getElem? (i := 60) rfl))))))) rfl
theorem tw_1021 : (Jvm.Cond.selects "BoyBishop" ({ cls := "BoyBishop", name := "ruled", desc := "(I)I" } : Jvm.MethodName) ({ cls := "BoyBishop", name := "ruled", desc := "(I)I" } : Jvm.MethodName)) ∈ gT := gT_in (List.mem_append_right _ (List.mem_append_right _ (List.mem_append_right _ (List.mem_append_right _ (List.mem_append_right _ (List.mem_append_left _ (List.mem_of_getElem? (i := 61) rfl))))))) rfl
theorem tw_1022 : (Jvm.Cond.code ({ cls := "BoyBishop", name := "ruled", desc := "(I)I" } : Jvm.MethodName) prog_1_method_33_code (2 : Nat) (Option.some Jvm.ClassFile.FieldType.int)) ∈ gT := gT_in (List.mem_append_right _ (List.mem_append_right _ (List.mem_append_right _ (List.mem_append_right _ (List.mem_append_right _ (List.mem_append_left _ (List.mem_of_getElem? (i := 62) rfl))))))) rfl
theorem tw_1045 : (Jvm.Cond.methodLink "BoyBishopLaw" (126 : Nat) ({ cls := "BoyBishop", name := "look", desc := "(I)I" } : Jvm.MethodName)) ∈ gT := gT_in (List.mem_append_right _ (List.mem_append_right _ (List.mem_append_right _ (List.mem_append_right _ (List.mem_append_right _ (List.mem_append_left _ (List.mem_of_getElem? (i := 85) rfl))))))) rfl
theorem tw_1046 : (Jvm.Cond.instanceMethod ({ cls := "BoyBishop", name := "look", desc := "(I)I" } : Jvm.MethodName)) ∈ gT := gT_in (List.mem_append_right _ (List.mem_append_right _ (List.mem_append_right _ (List.mem_append_right _ (List.mem_append_right _ (List.mem_append_left _ (List.mem_of_getElem? (i := 86) rfl))))))) rfl
theorem tw_1047 : (Jvm.Cond.selects "BoyBishop" ({ cls := "BoyBishop", name := "look", desc := "(I)I" } : Jvm.MethodName) ({ cls := "BoyBishop", name := "look", desc := "(I)I" } : Jvm.MethodName)) ∈ gT := gT_in (List.mem_append_right _ (List.mem_append_right _ (List.mem_append_right _ (List.mem_append_right _ (List.mem_append_right _ (List.mem_append_left _ (List.mem_of_getElem? (i := 87) rfl))))))) rfl
theorem tw_1048 : (Jvm.Cond.code ({ cls := "BoyBishop", name := "look", desc := "(I)I" } : Jvm.MethodName) prog_1_method_34_code (3 : Nat) (Option.some Jvm.ClassFile.FieldType.int)) ∈ gT := gT_in (List.mem_append_right _ (List.mem_append_right _ (List.mem_append_right _ (List.mem_append_right _ (List.mem_append_right _ (List.mem_append_left _ (List.mem_of_getElem? (i := 88) rfl))))))) rfl
theorem tw_1063 : (Jvm.Cond.methodLink "BoyBishopLaw" (130 : Nat) ({ cls := "BoyBishop", name := "seed", desc := "(I)I" } : Jvm.MethodName)) ∈ gT := gT_in (List.mem_append_right _ (List.mem_append_right _ (List.mem_append_right _ (List.mem_append_right _ (List.mem_append_right _ (List.mem_append_left _ (List.mem_of_getElem? (i := 103) rfl))))))) rfl
theorem tw_1064 : (Jvm.Cond.instanceMethod ({ cls := "BoyBishop", name := "seed", desc := "(I)I" } : Jvm.MethodName)) ∈ gT := gT_in (List.mem_append_right _ (List.mem_append_right _ (List.mem_append_right _ (List.mem_append_right _ (List.mem_append_right _ (List.mem_append_left _ (List.mem_of_getElem? (i := 104) rfl))))))) rfl
theorem tw_1065 : (Jvm.Cond.selects "BoyBishop" ({ cls := "BoyBishop", name := "seed", desc := "(I)I" } : Jvm.MethodName) ({ cls := "BoyBishop", name := "seed", desc := "(I)I" } : Jvm.MethodName)) ∈ gT := gT_in (List.mem_append_right _ (List.mem_append_right _ (List.mem_append_right _ (List.mem_append_right _ (List.mem_append_right _ (List.mem_append_left _ (List.mem_of_getElem? (i := 105) rfl))))))) rfl
theorem tw_1066 : (Jvm.Cond.code ({ cls := "BoyBishop", name := "seed", desc := "(I)I" } : Jvm.MethodName) prog_1_method_35_code (3 : Nat) (Option.some Jvm.ClassFile.FieldType.int)) ∈ gT := gT_in (List.mem_append_right _ (List.mem_append_right _ (List.mem_append_right _ (List.mem_append_right _ (List.mem_append_right _ (List.mem_append_left _ (List.mem_of_getElem? (i := 106) rfl))))))) rfl
theorem tw_1067 : (Jvm.Cond.methodLink "BoyBishopLaw" (134 : Nat) ({ cls := "BoyBishop", name := "winters", desc := "(IIII)I" } : Jvm.MethodName)) ∈ gT := gT_in (List.mem_append_right _ (List.mem_append_right _ (List.mem_append_right _ (List.mem_append_right _ (List.mem_append_right _ (List.mem_append_left _ (List.mem_of_getElem? (i := 107) rfl))))))) rfl
theorem tw_1068 : (Jvm.Cond.instanceMethod ({ cls := "BoyBishop", name := "winters", desc := "(IIII)I" } : Jvm.MethodName)) ∈ gT := gT_in (List.mem_append_right _ (List.mem_append_right _ (List.mem_append_right _ (List.mem_append_right _ (List.mem_append_right _ (List.mem_append_left _ (List.mem_of_getElem? (i := 108) rfl))))))) rfl
theorem tw_1069 : (Jvm.Cond.selects "BoyBishop" ({ cls := "BoyBishop", name := "winters", desc := "(IIII)I" } : Jvm.MethodName) ({ cls := "BoyBishop", name := "winters", desc := "(IIII)I" } : Jvm.MethodName)) ∈ gT := gT_in (List.mem_append_right _ (List.mem_append_right _ (List.mem_append_right _ (List.mem_append_right _ (List.mem_append_right _ (List.mem_append_left _ (List.mem_of_getElem? (i := 109) rfl))))))) rfl
theorem tw_1070 : (Jvm.Cond.code ({ cls := "BoyBishop", name := "winters", desc := "(IIII)I" } : Jvm.MethodName) prog_1_method_36_code (6 : Nat) (Option.some Jvm.ClassFile.FieldType.int)) ∈ gT := gT_in (List.mem_append_right _ (List.mem_append_right _ (List.mem_append_right _ (List.mem_append_right _ (List.mem_append_right _ (List.mem_append_left _ (List.mem_of_getElem? (i := 110) rfl))))))) rfl
theorem tw_1095 : (Jvm.Cond.methodLink "BoyBishopLaw" (139 : Nat) ({ cls := "BoyBishop", name := "count", desc := "(I)I" } : Jvm.MethodName)) ∈ gT := gT_in (List.mem_append_right _ (List.mem_append_right _ (List.mem_append_right _ (List.mem_append_right _ (List.mem_append_right _ (List.mem_append_left _ (List.mem_of_getElem? (i := 135) rfl))))))) rfl
theorem tw_1096 : (Jvm.Cond.instanceMethod ({ cls := "BoyBishop", name := "count", desc := "(I)I" } : Jvm.MethodName)) ∈ gT := gT_in (List.mem_append_right _ (List.mem_append_right _ (List.mem_append_right _ (List.mem_append_right _ (List.mem_append_right _ (List.mem_append_left _ (List.mem_of_getElem? (i := 136) rfl))))))) rfl
theorem tw_1097 : (Jvm.Cond.selects "BoyBishop" ({ cls := "BoyBishop", name := "count", desc := "(I)I" } : Jvm.MethodName) ({ cls := "BoyBishop", name := "count", desc := "(I)I" } : Jvm.MethodName)) ∈ gT := gT_in (List.mem_append_right _ (List.mem_append_right _ (List.mem_append_right _ (List.mem_append_right _ (List.mem_append_right _ (List.mem_append_left _ (List.mem_of_getElem? (i := 137) rfl))))))) rfl
theorem tw_1098 : (Jvm.Cond.code ({ cls := "BoyBishop", name := "count", desc := "(I)I" } : Jvm.MethodName) prog_1_method_37_code (2 : Nat) (Option.some Jvm.ClassFile.FieldType.int)) ∈ gT := gT_in (List.mem_append_right _ (List.mem_append_right _ (List.mem_append_right _ (List.mem_append_right _ (List.mem_append_right _ (List.mem_append_left _ (List.mem_of_getElem? (i := 138) rfl))))))) rfl
theorem tw_1105 : (Jvm.Cond.methodLink "BoyBishopLaw" (143 : Nat) ({ cls := "BoyBishop", name := "image", desc := "(I)I" } : Jvm.MethodName)) ∈ gT := gT_in (List.mem_append_right _ (List.mem_append_right _ (List.mem_append_right _ (List.mem_append_right _ (List.mem_append_right _ (List.mem_append_left _ (List.mem_of_getElem? (i := 145) rfl))))))) rfl
theorem tw_1106 : (Jvm.Cond.instanceMethod ({ cls := "BoyBishop", name := "image", desc := "(I)I" } : Jvm.MethodName)) ∈ gT := gT_in (List.mem_append_right _ (List.mem_append_right _ (List.mem_append_right _ (List.mem_append_right _ (List.mem_append_right _ (List.mem_append_left _ (List.mem_of_getElem? (i := 146) rfl))))))) rfl
theorem tw_1107 : (Jvm.Cond.selects "BoyBishop" ({ cls := "BoyBishop", name := "image", desc := "(I)I" } : Jvm.MethodName) ({ cls := "BoyBishop", name := "image", desc := "(I)I" } : Jvm.MethodName)) ∈ gT := gT_in (List.mem_append_right _ (List.mem_append_right _ (List.mem_append_right _ (List.mem_append_right _ (List.mem_append_right _ (List.mem_append_left _ (List.mem_of_getElem? (i := 147) rfl))))))) rfl
theorem tw_1108 : (Jvm.Cond.code ({ cls := "BoyBishop", name := "image", desc := "(I)I" } : Jvm.MethodName) prog_1_method_39_code (2 : Nat) (Option.some Jvm.ClassFile.FieldType.int)) ∈ gT := gT_in (List.mem_append_right _ (List.mem_append_right _ (List.mem_append_right _ (List.mem_append_right _ (List.mem_append_right _ (List.mem_append_left _ (List.mem_of_getElem? (i := 148) rfl))))))) rfl
theorem tw_1115 : (Jvm.Cond.methodLink "BoyBishopLaw" (147 : Nat) ({ cls := "BoyBishop", name := "back", desc := "(I)I" } : Jvm.MethodName)) ∈ gT := gT_in (List.mem_append_right _ (List.mem_append_right _ (List.mem_append_right _ (List.mem_append_right _ (List.mem_append_right _ (List.mem_append_left _ (List.mem_of_getElem? (i := 155) rfl))))))) rfl
theorem tw_1116 : (Jvm.Cond.instanceMethod ({ cls := "BoyBishop", name := "back", desc := "(I)I" } : Jvm.MethodName)) ∈ gT := gT_in (List.mem_append_right _ (List.mem_append_right _ (List.mem_append_right _ (List.mem_append_right _ (List.mem_append_right _ (List.mem_append_left _ (List.mem_of_getElem? (i := 156) rfl))))))) rfl
theorem tw_1117 : (Jvm.Cond.selects "BoyBishop" ({ cls := "BoyBishop", name := "back", desc := "(I)I" } : Jvm.MethodName) ({ cls := "BoyBishop", name := "back", desc := "(I)I" } : Jvm.MethodName)) ∈ gT := gT_in (List.mem_append_right _ (List.mem_append_right _ (List.mem_append_right _ (List.mem_append_right _ (List.mem_append_right _ (List.mem_append_left _ (List.mem_of_getElem? (i := 157) rfl))))))) rfl
theorem tw_1118 : (Jvm.Cond.code ({ cls := "BoyBishop", name := "back", desc := "(I)I" } : Jvm.MethodName) prog_1_method_40_code (2 : Nat) (Option.some Jvm.ClassFile.FieldType.int)) ∈ gT := gT_in (List.mem_append_right _ (List.mem_append_right _ (List.mem_append_right _ (List.mem_append_right _ (List.mem_append_right _ (List.mem_append_left _ (List.mem_of_getElem? (i := 158) rfl))))))) rfl
theorem tw_1606 : (Jvm.Cond.methodLink "BoyBishopLaw" (85 : Nat) ({ cls := "BoyBishopModel", name := "votes", desc := "(II)I" } : Jvm.MethodName)) ∈ gT := gT_in (List.mem_append_right _ (List.mem_append_right _ (List.mem_append_right _ (List.mem_append_right _ (List.mem_append_right _ (List.mem_append_right _ (List.mem_append_right _ (List.mem_append_left _ (List.mem_of_getElem? (i := 166) rfl))))))))) rfl
theorem tw_1607 : (Jvm.Cond.instanceMethod ({ cls := "BoyBishopModel", name := "votes", desc := "(II)I" } : Jvm.MethodName)) ∈ gT := gT_in (List.mem_append_right _ (List.mem_append_right _ (List.mem_append_right _ (List.mem_append_right _ (List.mem_append_right _ (List.mem_append_right _ (List.mem_append_right _ (List.mem_append_left _ (List.mem_of_getElem? (i := 167) rfl))))))))) rfl
theorem tw_1608 : (Jvm.Cond.selects "BoyBishopModel" ({ cls := "BoyBishopModel", name := "votes", desc := "(II)I" } : Jvm.MethodName) ({ cls := "BoyBishopModel", name := "votes", desc := "(II)I" } : Jvm.MethodName)) ∈ gT := gT_in (List.mem_append_right _ (List.mem_append_right _ (List.mem_append_right _ (List.mem_append_right _ (List.mem_append_right _ (List.mem_append_right _ (List.mem_append_right _ (List.mem_append_left _ (List.mem_of_getElem? (i := 168) rfl))))))))) rfl
theorem tw_1609 : (Jvm.Cond.code ({ cls := "BoyBishopModel", name := "votes", desc := "(II)I" } : Jvm.MethodName) prog_14_method_90_code (3 : Nat) (Option.some Jvm.ClassFile.FieldType.int)) ∈ gT := gT_in (List.mem_append_right _ (List.mem_append_right _ (List.mem_append_right _ (List.mem_append_right _ (List.mem_append_right _ (List.mem_append_right _ (List.mem_append_right _ (List.mem_append_left _ (List.mem_of_getElem? (i := 169) rfl))))))))) rfl
theorem tw_1610 : (Jvm.Cond.methodLink "BoyBishopLaw" (89 : Nat) ({ cls := "BoyBishopModel", name := "method", desc := "(I)I" } : Jvm.MethodName)) ∈ gT := gT_in (List.mem_append_right _ (List.mem_append_right _ (List.mem_append_right _ (List.mem_append_right _ (List.mem_append_right _ (List.mem_append_right _ (List.mem_append_right _ (List.mem_append_left _ (List.mem_of_getElem? (i := 170) rfl))))))))) rfl
theorem tw_1611 : (Jvm.Cond.instanceMethod ({ cls := "BoyBishopModel", name := "method", desc := "(I)I" } : Jvm.MethodName)) ∈ gT := gT_in (List.mem_append_right _ (List.mem_append_right _ (List.mem_append_right _ (List.mem_append_right _ (List.mem_append_right _ (List.mem_append_right _ (List.mem_append_right _ (List.mem_append_left _ (List.mem_of_getElem? (i := 171) rfl))))))))) rfl
theorem tw_1612 : (Jvm.Cond.selects "BoyBishopModel" ({ cls := "BoyBishopModel", name := "method", desc := "(I)I" } : Jvm.MethodName) ({ cls := "BoyBishopModel", name := "method", desc := "(I)I" } : Jvm.MethodName)) ∈ gT := gT_in (List.mem_append_right _ (List.mem_append_right _ (List.mem_append_right _ (List.mem_append_right _ (List.mem_append_right _ (List.mem_append_right _ (List.mem_append_right _ (List.mem_append_left _ (List.mem_of_getElem? (i := 172) rfl))))))))) rfl
theorem tw_1613 : (Jvm.Cond.code ({ cls := "BoyBishopModel", name := "method", desc := "(I)I" } : Jvm.MethodName) prog_14_method_98_code (3 : Nat) (Option.some Jvm.ClassFile.FieldType.int)) ∈ gT := gT_in (List.mem_append_right _ (List.mem_append_right _ (List.mem_append_right _ (List.mem_append_right _ (List.mem_append_right _ (List.mem_append_right _ (List.mem_append_right _ (List.mem_append_left _ (List.mem_of_getElem? (i := 173) rfl))))))))) rfl
theorem tw_1648 : (Jvm.Cond.methodLink "BoyBishopLaw" (93 : Nat) ({ cls := "BoyBishopModel", name := "least", desc := "(I)I" } : Jvm.MethodName)) ∈ gT := gT_in (List.mem_append_right _ (List.mem_append_right _ (List.mem_append_right _ (List.mem_append_right _ (List.mem_append_right _ (List.mem_append_right _ (List.mem_append_right _ (List.mem_append_left _ (List.mem_of_getElem? (i := 208) rfl))))))))) rfl
theorem tw_1649 : (Jvm.Cond.instanceMethod ({ cls := "BoyBishopModel", name := "least", desc := "(I)I" } : Jvm.MethodName)) ∈ gT := gT_in (List.mem_append_right _ (List.mem_append_right _ (List.mem_append_right _ (List.mem_append_right _ (List.mem_append_right _ (List.mem_append_right _ (List.mem_append_right _ (List.mem_append_left _ (List.mem_of_getElem? (i := 209) rfl))))))))) rfl
theorem tw_1650 : (Jvm.Cond.selects "BoyBishopModel" ({ cls := "BoyBishopModel", name := "least", desc := "(I)I" } : Jvm.MethodName) ({ cls := "BoyBishopModel", name := "least", desc := "(I)I" } : Jvm.MethodName)) ∈ gT := gT_in (List.mem_append_right _ (List.mem_append_right _ (List.mem_append_right _ (List.mem_append_right _ (List.mem_append_right _ (List.mem_append_right _ (List.mem_append_right _ (List.mem_append_left _ (List.mem_of_getElem? (i := 210) rfl))))))))) rfl
theorem tw_1651 : (Jvm.Cond.code ({ cls := "BoyBishopModel", name := "least", desc := "(I)I" } : Jvm.MethodName) prog_14_method_99_code (5 : Nat) (Option.some Jvm.ClassFile.FieldType.int)) ∈ gT := gT_in (List.mem_append_right _ (List.mem_append_right _ (List.mem_append_right _ (List.mem_append_right _ (List.mem_append_right _ (List.mem_append_right _ (List.mem_append_right _ (List.mem_append_left _ (List.mem_of_getElem? (i := 211) rfl))))))))) rfl
theorem tw_1652 : (Jvm.Cond.methodLink "BoyBishopLaw" (97 : Nat) ({ cls := "BoyBishopModel", name := "winOver", desc := "(II)I" } : Jvm.MethodName)) ∈ gT := gT_in (List.mem_append_right _ (List.mem_append_right _ (List.mem_append_right _ (List.mem_append_right _ (List.mem_append_right _ (List.mem_append_right _ (List.mem_append_right _ (List.mem_append_left _ (List.mem_of_getElem? (i := 212) rfl))))))))) rfl
theorem tw_1653 : (Jvm.Cond.instanceMethod ({ cls := "BoyBishopModel", name := "winOver", desc := "(II)I" } : Jvm.MethodName)) ∈ gT := gT_in (List.mem_append_right _ (List.mem_append_right _ (List.mem_append_right _ (List.mem_append_right _ (List.mem_append_right _ (List.mem_append_right _ (List.mem_append_right _ (List.mem_append_left _ (List.mem_of_getElem? (i := 213) rfl))))))))) rfl
theorem tw_1654 : (Jvm.Cond.selects "BoyBishopModel" ({ cls := "BoyBishopModel", name := "winOver", desc := "(II)I" } : Jvm.MethodName) ({ cls := "BoyBishopModel", name := "winOver", desc := "(II)I" } : Jvm.MethodName)) ∈ gT := gT_in (List.mem_append_right _ (List.mem_append_right _ (List.mem_append_right _ (List.mem_append_right _ (List.mem_append_right _ (List.mem_append_right _ (List.mem_append_right _ (List.mem_append_left _ (List.mem_of_getElem? (i := 214) rfl))))))))) rfl
theorem tw_1655 : (Jvm.Cond.code ({ cls := "BoyBishopModel", name := "winOver", desc := "(II)I" } : Jvm.MethodName) prog_14_method_101_code (5 : Nat) (Option.some Jvm.ClassFile.FieldType.int)) ∈ gT := gT_in (List.mem_append_right _ (List.mem_append_right _ (List.mem_append_right _ (List.mem_append_right _ (List.mem_append_right _ (List.mem_append_right _ (List.mem_append_right _ (List.mem_append_left _ (List.mem_of_getElem? (i := 215) rfl))))))))) rfl
theorem tw_1660 : (Jvm.Cond.methodLink "BoyBishopLaw" (101 : Nat) ({ cls := "BoyBishopModel", name := "rests", desc := "(III)I" } : Jvm.MethodName)) ∈ gT := gT_in (List.mem_append_right _ (List.mem_append_right _ (List.mem_append_right _ (List.mem_append_right _ (List.mem_append_right _ (List.mem_append_right _ (List.mem_append_right _ (List.mem_append_left _ (List.mem_of_getElem? (i := 220) rfl))))))))) rfl
theorem tw_1661 : (Jvm.Cond.instanceMethod ({ cls := "BoyBishopModel", name := "rests", desc := "(III)I" } : Jvm.MethodName)) ∈ gT := gT_in (List.mem_append_right _ (List.mem_append_right _ (List.mem_append_right _ (List.mem_append_right _ (List.mem_append_right _ (List.mem_append_right _ (List.mem_append_right _ (List.mem_append_left _ (List.mem_of_getElem? (i := 221) rfl))))))))) rfl
theorem tw_1662 : (Jvm.Cond.selects "BoyBishopModel" ({ cls := "BoyBishopModel", name := "rests", desc := "(III)I" } : Jvm.MethodName) ({ cls := "BoyBishopModel", name := "rests", desc := "(III)I" } : Jvm.MethodName)) ∈ gT := gT_in (List.mem_append_right _ (List.mem_append_right _ (List.mem_append_right _ (List.mem_append_right _ (List.mem_append_right _ (List.mem_append_right _ (List.mem_append_right _ (List.mem_append_left _ (List.mem_of_getElem? (i := 222) rfl))))))))) rfl
theorem tw_1663 : (Jvm.Cond.code ({ cls := "BoyBishopModel", name := "rests", desc := "(III)I" } : Jvm.MethodName) prog_14_method_104_code (7 : Nat) (Option.some Jvm.ClassFile.FieldType.int)) ∈ gT := gT_in (List.mem_append_right _ (List.mem_append_right _ (List.mem_append_right _ (List.mem_append_right _ (List.mem_append_right _ (List.mem_append_right _ (List.mem_append_right _ (List.mem_append_left _ (List.mem_of_getElem? (i := 223) rfl))))))))) rfl
theorem tw_1672 : (Jvm.Cond.methodLink "BoyBishopLaw" (105 : Nat) ({ cls := "BoyBishopModel", name := "round", desc := "(I)I" } : Jvm.MethodName)) ∈ gT := gT_in (List.mem_append_right _ (List.mem_append_right _ (List.mem_append_right _ (List.mem_append_right _ (List.mem_append_right _ (List.mem_append_right _ (List.mem_append_right _ (List.mem_append_left _ (List.mem_of_getElem? (i := 232) rfl))))))))) rfl
theorem tw_1673 : (Jvm.Cond.instanceMethod ({ cls := "BoyBishopModel", name := "round", desc := "(I)I" } : Jvm.MethodName)) ∈ gT := gT_in (List.mem_append_right _ (List.mem_append_right _ (List.mem_append_right _ (List.mem_append_right _ (List.mem_append_right _ (List.mem_append_right _ (List.mem_append_right _ (List.mem_append_left _ (List.mem_of_getElem? (i := 233) rfl))))))))) rfl
theorem tw_1674 : (Jvm.Cond.selects "BoyBishopModel" ({ cls := "BoyBishopModel", name := "round", desc := "(I)I" } : Jvm.MethodName) ({ cls := "BoyBishopModel", name := "round", desc := "(I)I" } : Jvm.MethodName)) ∈ gT := gT_in (List.mem_append_right _ (List.mem_append_right _ (List.mem_append_right _ (List.mem_append_right _ (List.mem_append_right _ (List.mem_append_right _ (List.mem_append_right _ (List.mem_append_left _ (List.mem_of_getElem? (i := 234) rfl))))))))) rfl
theorem tw_1675 : (Jvm.Cond.code ({ cls := "BoyBishopModel", name := "round", desc := "(I)I" } : Jvm.MethodName) prog_14_method_108_code (7 : Nat) (Option.some Jvm.ClassFile.FieldType.int)) ∈ gT := gT_in (List.mem_append_right _ (List.mem_append_right _ (List.mem_append_right _ (List.mem_append_right _ (List.mem_append_right _ (List.mem_append_right _ (List.mem_append_right _ (List.mem_append_left _ (List.mem_of_getElem? (i := 235) rfl))))))))) rfl
theorem tw_1688 : (Jvm.Cond.methodLink "BoyBishopLaw" (109 : Nat) ({ cls := "BoyBishopModel", name := "falls", desc := "(II)I" } : Jvm.MethodName)) ∈ gT := gT_in (List.mem_append_right _ (List.mem_append_right _ (List.mem_append_right _ (List.mem_append_right _ (List.mem_append_right _ (List.mem_append_right _ (List.mem_append_right _ (List.mem_append_right _ (List.mem_of_getElem? (i := 8) rfl))))))))) rfl
theorem tw_1689 : (Jvm.Cond.instanceMethod ({ cls := "BoyBishopModel", name := "falls", desc := "(II)I" } : Jvm.MethodName)) ∈ gT := gT_in (List.mem_append_right _ (List.mem_append_right _ (List.mem_append_right _ (List.mem_append_right _ (List.mem_append_right _ (List.mem_append_right _ (List.mem_append_right _ (List.mem_append_right _ (List.mem_of_getElem? (i := 9) rfl))))))))) rfl
theorem tw_1690 : (Jvm.Cond.selects "BoyBishopModel" ({ cls := "BoyBishopModel", name := "falls", desc := "(II)I" } : Jvm.MethodName) ({ cls := "BoyBishopModel", name := "falls", desc := "(II)I" } : Jvm.MethodName)) ∈ gT := gT_in (List.mem_append_right _ (List.mem_append_right _ (List.mem_append_right _ (List.mem_append_right _ (List.mem_append_right _ (List.mem_append_right _ (List.mem_append_right _ (List.mem_append_right _ (List.mem_of_getElem? (i := 10) rfl))))))))) rfl
theorem tw_1691 : (Jvm.Cond.code ({ cls := "BoyBishopModel", name := "falls", desc := "(II)I" } : Jvm.MethodName) prog_14_method_109_code (5 : Nat) (Option.some Jvm.ClassFile.FieldType.int)) ∈ gT := gT_in (List.mem_append_right _ (List.mem_append_right _ (List.mem_append_right _ (List.mem_append_right _ (List.mem_append_right _ (List.mem_append_right _ (List.mem_append_right _ (List.mem_append_right _ (List.mem_of_getElem? (i := 11) rfl))))))))) rfl
theorem tw_1692 : (Jvm.Cond.methodLink "BoyBishopLaw" (113 : Nat) ({ cls := "BoyBishopModel", name := "likely", desc := "(II)I" } : Jvm.MethodName)) ∈ gT := gT_in (List.mem_append_right _ (List.mem_append_right _ (List.mem_append_right _ (List.mem_append_right _ (List.mem_append_right _ (List.mem_append_right _ (List.mem_append_right _ (List.mem_append_right _ (List.mem_of_getElem? (i := 12) rfl))))))))) rfl
theorem tw_1693 : (Jvm.Cond.instanceMethod ({ cls := "BoyBishopModel", name := "likely", desc := "(II)I" } : Jvm.MethodName)) ∈ gT := gT_in (List.mem_append_right _ (List.mem_append_right _ (List.mem_append_right _ (List.mem_append_right _ (List.mem_append_right _ (List.mem_append_right _ (List.mem_append_right _ (List.mem_append_right _ (List.mem_of_getElem? (i := 13) rfl))))))))) rfl
theorem tw_1694 : (Jvm.Cond.selects "BoyBishopModel" ({ cls := "BoyBishopModel", name := "likely", desc := "(II)I" } : Jvm.MethodName) ({ cls := "BoyBishopModel", name := "likely", desc := "(II)I" } : Jvm.MethodName)) ∈ gT := gT_in (List.mem_append_right _ (List.mem_append_right _ (List.mem_append_right _ (List.mem_append_right _ (List.mem_append_right _ (List.mem_append_right _ (List.mem_append_right _ (List.mem_append_right _ (List.mem_of_getElem? (i := 14) rfl))))))))) rfl
theorem tw_1695 : (Jvm.Cond.code ({ cls := "BoyBishopModel", name := "likely", desc := "(II)I" } : Jvm.MethodName) prog_14_method_110_code (5 : Nat) (Option.some Jvm.ClassFile.FieldType.int)) ∈ gT := gT_in (List.mem_append_right _ (List.mem_append_right _ (List.mem_append_right _ (List.mem_append_right _ (List.mem_append_right _ (List.mem_append_right _ (List.mem_append_right _ (List.mem_append_right _ (List.mem_of_getElem? (i := 15) rfl))))))))) rfl
theorem tw_1696 : (Jvm.Cond.methodLink "BoyBishopLaw" (117 : Nat) ({ cls := "BoyBishopModel", name := "best", desc := "(I)I" } : Jvm.MethodName)) ∈ gT := gT_in (List.mem_append_right _ (List.mem_append_right _ (List.mem_append_right _ (List.mem_append_right _ (List.mem_append_right _ (List.mem_append_right _ (List.mem_append_right _ (List.mem_append_right _ (List.mem_of_getElem? (i := 16) rfl))))))))) rfl
theorem tw_1697 : (Jvm.Cond.instanceMethod ({ cls := "BoyBishopModel", name := "best", desc := "(I)I" } : Jvm.MethodName)) ∈ gT := gT_in (List.mem_append_right _ (List.mem_append_right _ (List.mem_append_right _ (List.mem_append_right _ (List.mem_append_right _ (List.mem_append_right _ (List.mem_append_right _ (List.mem_append_right _ (List.mem_of_getElem? (i := 17) rfl))))))))) rfl
theorem tw_1698 : (Jvm.Cond.selects "BoyBishopModel" ({ cls := "BoyBishopModel", name := "best", desc := "(I)I" } : Jvm.MethodName) ({ cls := "BoyBishopModel", name := "best", desc := "(I)I" } : Jvm.MethodName)) ∈ gT := gT_in (List.mem_append_right _ (List.mem_append_right _ (List.mem_append_right _ (List.mem_append_right _ (List.mem_append_right _ (List.mem_append_right _ (List.mem_append_right _ (List.mem_append_right _ (List.mem_of_getElem? (i := 18) rfl))))))))) rfl
theorem tw_1699 : (Jvm.Cond.code ({ cls := "BoyBishopModel", name := "best", desc := "(I)I" } : Jvm.MethodName) prog_14_method_111_code (4 : Nat) (Option.some Jvm.ClassFile.FieldType.int)) ∈ gT := gT_in (List.mem_append_right _ (List.mem_append_right _ (List.mem_append_right _ (List.mem_append_right _ (List.mem_append_right _ (List.mem_append_right _ (List.mem_append_right _ (List.mem_append_right _ (List.mem_of_getElem? (i := 19) rfl))))))))) rfl
theorem tw_1700 : (Jvm.Cond.methodLink "BoyBishopLaw" (121 : Nat) ({ cls := "BoyBishopModel", name := "note", desc := "(II)I" } : Jvm.MethodName)) ∈ gT := gT_in (List.mem_append_right _ (List.mem_append_right _ (List.mem_append_right _ (List.mem_append_right _ (List.mem_append_right _ (List.mem_append_right _ (List.mem_append_right _ (List.mem_append_right _ (List.mem_of_getElem? (i := 20) rfl))))))))) rfl
theorem tw_1701 : (Jvm.Cond.instanceMethod ({ cls := "BoyBishopModel", name := "note", desc := "(II)I" } : Jvm.MethodName)) ∈ gT := gT_in (List.mem_append_right _ (List.mem_append_right _ (List.mem_append_right _ (List.mem_append_right _ (List.mem_append_right _ (List.mem_append_right _ (List.mem_append_right _ (List.mem_append_right _ (List.mem_of_getElem? (i := 21) rfl))))))))) rfl
theorem tw_1702 : (Jvm.Cond.selects "BoyBishopModel" ({ cls := "BoyBishopModel", name := "note", desc := "(II)I" } : Jvm.MethodName) ({ cls := "BoyBishopModel", name := "note", desc := "(II)I" } : Jvm.MethodName)) ∈ gT := gT_in (List.mem_append_right _ (List.mem_append_right _ (List.mem_append_right _ (List.mem_append_right _ (List.mem_append_right _ (List.mem_append_right _ (List.mem_append_right _ (List.mem_append_right _ (List.mem_of_getElem? (i := 22) rfl))))))))) rfl
theorem tw_1703 : (Jvm.Cond.code ({ cls := "BoyBishopModel", name := "note", desc := "(II)I" } : Jvm.MethodName) prog_14_method_112_code (3 : Nat) (Option.some Jvm.ClassFile.FieldType.int)) ∈ gT := gT_in (List.mem_append_right _ (List.mem_append_right _ (List.mem_append_right _ (List.mem_append_right _ (List.mem_append_right _ (List.mem_append_right _ (List.mem_append_right _ (List.mem_append_right _ (List.mem_of_getElem? (i := 23) rfl))))))))) rfl
theorem tw_1704 : (Jvm.Cond.methodLink "BoyBishopLaw" (125 : Nat) ({ cls := "BoyBishopModel", name := "ruled", desc := "(I)I" } : Jvm.MethodName)) ∈ gT := gT_in (List.mem_append_right _ (List.mem_append_right _ (List.mem_append_right _ (List.mem_append_right _ (List.mem_append_right _ (List.mem_append_right _ (List.mem_append_right _ (List.mem_append_right _ (List.mem_of_getElem? (i := 24) rfl))))))))) rfl
theorem tw_1705 : (Jvm.Cond.instanceMethod ({ cls := "BoyBishopModel", name := "ruled", desc := "(I)I" } : Jvm.MethodName)) ∈ gT := gT_in (List.mem_append_right _ (List.mem_append_right _ (List.mem_append_right _ (List.mem_append_right _ (List.mem_append_right _ (List.mem_append_right _ (List.mem_append_right _ (List.mem_append_right _ (List.mem_of_getElem? (i := 25) rfl))))))))) rfl
theorem tw_1706 : (Jvm.Cond.selects "BoyBishopModel" ({ cls := "BoyBishopModel", name := "ruled", desc := "(I)I" } : Jvm.MethodName) ({ cls := "BoyBishopModel", name := "ruled", desc := "(I)I" } : Jvm.MethodName)) ∈ gT := gT_in (List.mem_append_right _ (List.mem_append_right _ (List.mem_append_right _ (List.mem_append_right _ (List.mem_append_right _ (List.mem_append_right _ (List.mem_append_right _ (List.mem_append_right _ (List.mem_of_getElem? (i := 26) rfl))))))))) rfl
theorem tw_1707 : (Jvm.Cond.code ({ cls := "BoyBishopModel", name := "ruled", desc := "(I)I" } : Jvm.MethodName) prog_14_method_115_code (5 : Nat) (Option.some Jvm.ClassFile.FieldType.int)) ∈ gT := gT_in (List.mem_append_right _ (List.mem_append_right _ (List.mem_append_right _ (List.mem_append_right _ (List.mem_append_right _ (List.mem_append_right _ (List.mem_append_right _ (List.mem_append_right _ (List.mem_of_getElem? (i := 27) rfl))))))))) rfl
theorem tw_1715 : (Jvm.Cond.methodLink "BoyBishopLaw" (129 : Nat) ({ cls := "BoyBishopModel", name := "look", desc := "(I)I" } : Jvm.MethodName)) ∈ gT := gT_in (List.mem_append_right _ (List.mem_append_right _ (List.mem_append_right _ (List.mem_append_right _ (List.mem_append_right _ (List.mem_append_right _ (List.mem_append_right _ (List.mem_append_right _ (List.mem_of_getElem? (i := 35) rfl))))))))) rfl
theorem tw_1716 : (Jvm.Cond.instanceMethod ({ cls := "BoyBishopModel", name := "look", desc := "(I)I" } : Jvm.MethodName)) ∈ gT := gT_in (List.mem_append_right _ (List.mem_append_right _ (List.mem_append_right _ (List.mem_append_right _ (List.mem_append_right _ (List.mem_append_right _ (List.mem_append_right _ (List.mem_append_right _ (List.mem_of_getElem? (i := 36) rfl))))))))) rfl
theorem tw_1717 : (Jvm.Cond.selects "BoyBishopModel" ({ cls := "BoyBishopModel", name := "look", desc := "(I)I" } : Jvm.MethodName) ({ cls := "BoyBishopModel", name := "look", desc := "(I)I" } : Jvm.MethodName)) ∈ gT := gT_in (List.mem_append_right _ (List.mem_append_right _ (List.mem_append_right _ (List.mem_append_right _ (List.mem_append_right _ (List.mem_append_right _ (List.mem_append_right _ (List.mem_append_right _ (List.mem_of_getElem? (i := 37) rfl))))))))) rfl
theorem tw_1718 : (Jvm.Cond.code ({ cls := "BoyBishopModel", name := "look", desc := "(I)I" } : Jvm.MethodName) prog_14_method_117_code (4 : Nat) (Option.some Jvm.ClassFile.FieldType.int)) ∈ gT := gT_in (List.mem_append_right _ (List.mem_append_right _ (List.mem_append_right _ (List.mem_append_right _ (List.mem_append_right _ (List.mem_append_right _ (List.mem_append_right _ (List.mem_append_right _ (List.mem_of_getElem? (i := 38) rfl))))))))) rfl
theorem tw_1723 : (Jvm.Cond.methodLink "BoyBishopLaw" (133 : Nat) ({ cls := "BoyBishopModel", name := "seed", desc := "(I)I" } : Jvm.MethodName)) ∈ gT := gT_in (List.mem_append_right _ (List.mem_append_right _ (List.mem_append_right _ (List.mem_append_right _ (List.mem_append_right _ (List.mem_append_right _ (List.mem_append_right _ (List.mem_append_right _ (List.mem_of_getElem? (i := 43) rfl))))))))) rfl
theorem tw_1724 : (Jvm.Cond.instanceMethod ({ cls := "BoyBishopModel", name := "seed", desc := "(I)I" } : Jvm.MethodName)) ∈ gT := gT_in (List.mem_append_right _ (List.mem_append_right _ (List.mem_append_right _ (List.mem_append_right _ (List.mem_append_right _ (List.mem_append_right _ (List.mem_append_right _ (List.mem_append_right _ (List.mem_of_getElem? (i := 44) rfl))))))))) rfl
theorem tw_1725 : (Jvm.Cond.selects "BoyBishopModel" ({ cls := "BoyBishopModel", name := "seed", desc := "(I)I" } : Jvm.MethodName) ({ cls := "BoyBishopModel", name := "seed", desc := "(I)I" } : Jvm.MethodName)) ∈ gT := gT_in (List.mem_append_right _ (List.mem_append_right _ (List.mem_append_right _ (List.mem_append_right _ (List.mem_append_right _ (List.mem_append_right _ (List.mem_append_right _ (List.mem_append_right _ (List.mem_of_getElem? (i := 45) rfl))))))))) rfl
theorem tw_1726 : (Jvm.Cond.code ({ cls := "BoyBishopModel", name := "seed", desc := "(I)I" } : Jvm.MethodName) prog_14_method_118_code (3 : Nat) (Option.some Jvm.ClassFile.FieldType.int)) ∈ gT := gT_in (List.mem_append_right _ (List.mem_append_right _ (List.mem_append_right _ (List.mem_append_right _ (List.mem_append_right _ (List.mem_append_right _ (List.mem_append_right _ (List.mem_append_right _ (List.mem_of_getElem? (i := 46) rfl))))))))) rfl
theorem tw_1727 : (Jvm.Cond.methodLink "BoyBishopLaw" (138 : Nat) ({ cls := "BoyBishopModel", name := "winters", desc := "(IIII)I" } : Jvm.MethodName)) ∈ gT := gT_in (List.mem_append_right _ (List.mem_append_right _ (List.mem_append_right _ (List.mem_append_right _ (List.mem_append_right _ (List.mem_append_right _ (List.mem_append_right _ (List.mem_append_right _ (List.mem_of_getElem? (i := 47) rfl))))))))) rfl
theorem tw_1728 : (Jvm.Cond.instanceMethod ({ cls := "BoyBishopModel", name := "winters", desc := "(IIII)I" } : Jvm.MethodName)) ∈ gT := gT_in (List.mem_append_right _ (List.mem_append_right _ (List.mem_append_right _ (List.mem_append_right _ (List.mem_append_right _ (List.mem_append_right _ (List.mem_append_right _ (List.mem_append_right _ (List.mem_of_getElem? (i := 48) rfl))))))))) rfl
theorem tw_1729 : (Jvm.Cond.selects "BoyBishopModel" ({ cls := "BoyBishopModel", name := "winters", desc := "(IIII)I" } : Jvm.MethodName) ({ cls := "BoyBishopModel", name := "winters", desc := "(IIII)I" } : Jvm.MethodName)) ∈ gT := gT_in (List.mem_append_right _ (List.mem_append_right _ (List.mem_append_right _ (List.mem_append_right _ (List.mem_append_right _ (List.mem_append_right _ (List.mem_append_right _ (List.mem_append_right _ (List.mem_of_getElem? (i := 49) rfl))))))))) rfl
theorem tw_1730 : (Jvm.Cond.code ({ cls := "BoyBishopModel", name := "winters", desc := "(IIII)I" } : Jvm.MethodName) prog_14_method_120_code (9 : Nat) (Option.some Jvm.ClassFile.FieldType.int)) ∈ gT := gT_in (List.mem_append_right _ (List.mem_append_right _ (List.mem_append_right _ (List.mem_append_right _ (List.mem_append_right _ (List.mem_append_right _ (List.mem_append_right _ (List.mem_append_right _ (List.mem_of_getElem? (i := 50) rfl))))))))) rfl
theorem tw_1741 : (Jvm.Cond.methodLink "BoyBishopLaw" (142 : Nat) ({ cls := "BoyBishopModel", name := "count", desc := "(I)I" } : Jvm.MethodName)) ∈ gT := gT_in (List.mem_append_right _ (List.mem_append_right _ (List.mem_append_right _ (List.mem_append_right _ (List.mem_append_right _ (List.mem_append_right _ (List.mem_append_right _ (List.mem_append_right _ (List.mem_of_getElem? (i := 61) rfl))))))))) rfl
theorem tw_1742 : (Jvm.Cond.instanceMethod ({ cls := "BoyBishopModel", name := "count", desc := "(I)I" } : Jvm.MethodName)) ∈ gT := gT_in (List.mem_append_right _ (List.mem_append_right _ (List.mem_append_right _ (List.mem_append_right _ (List.mem_append_right _ (List.mem_append_right _ (List.mem_append_right _ (List.mem_append_right _ (List.mem_of_getElem? (i := 62) rfl))))))))) rfl
theorem tw_1743 : (Jvm.Cond.selects "BoyBishopModel" ({ cls := "BoyBishopModel", name := "count", desc := "(I)I" } : Jvm.MethodName) ({ cls := "BoyBishopModel", name := "count", desc := "(I)I" } : Jvm.MethodName)) ∈ gT := gT_in (List.mem_append_right _ (List.mem_append_right _ (List.mem_append_right _ (List.mem_append_right _ (List.mem_append_right _ (List.mem_append_right _ (List.mem_append_right _ (List.mem_append_right _ (List.mem_of_getElem? (i := 63) rfl))))))))) rfl
theorem tw_1744 : (Jvm.Cond.code ({ cls := "BoyBishopModel", name := "count", desc := "(I)I" } : Jvm.MethodName) prog_14_method_121_code (4 : Nat) (Option.some Jvm.ClassFile.FieldType.int)) ∈ gT := gT_in (List.mem_append_right _ (List.mem_append_right _ (List.mem_append_right _ (List.mem_append_right _ (List.mem_append_right _ (List.mem_append_right _ (List.mem_append_right _ (List.mem_append_right _ (List.mem_of_getElem? (i := 64) rfl))))))))) rfl
theorem tw_1745 : (Jvm.Cond.methodLink "BoyBishopLaw" (146 : Nat) ({ cls := "BoyBishopModel", name := "image", desc := "(I)I" } : Jvm.MethodName)) ∈ gT := gT_in (List.mem_append_right _ (List.mem_append_right _ (List.mem_append_right _ (List.mem_append_right _ (List.mem_append_right _ (List.mem_append_right _ (List.mem_append_right _ (List.mem_append_right _ (List.mem_of_getElem? (i := 65) rfl))))))))) rfl
theorem tw_1746 : (Jvm.Cond.instanceMethod ({ cls := "BoyBishopModel", name := "image", desc := "(I)I" } : Jvm.MethodName)) ∈ gT := gT_in (List.mem_append_right _ (List.mem_append_right _ (List.mem_append_right _ (List.mem_append_right _ (List.mem_append_right _ (List.mem_append_right _ (List.mem_append_right _ (List.mem_append_right _ (List.mem_of_getElem? (i := 66) rfl))))))))) rfl
theorem tw_1747 : (Jvm.Cond.selects "BoyBishopModel" ({ cls := "BoyBishopModel", name := "image", desc := "(I)I" } : Jvm.MethodName) ({ cls := "BoyBishopModel", name := "image", desc := "(I)I" } : Jvm.MethodName)) ∈ gT := gT_in (List.mem_append_right _ (List.mem_append_right _ (List.mem_append_right _ (List.mem_append_right _ (List.mem_append_right _ (List.mem_append_right _ (List.mem_append_right _ (List.mem_append_right _ (List.mem_of_getElem? (i := 67) rfl))))))))) rfl
theorem tw_1748 : (Jvm.Cond.code ({ cls := "BoyBishopModel", name := "image", desc := "(I)I" } : Jvm.MethodName) prog_14_method_122_code (3 : Nat) (Option.some Jvm.ClassFile.FieldType.int)) ∈ gT := gT_in (List.mem_append_right _ (List.mem_append_right _ (List.mem_append_right _ (List.mem_append_right _ (List.mem_append_right _ (List.mem_append_right _ (List.mem_append_right _ (List.mem_append_right _ (List.mem_of_getElem? (i := 68) rfl))))))))) rfl
theorem tw_1749 : (Jvm.Cond.methodLink "BoyBishopLaw" (150 : Nat) ({ cls := "BoyBishopModel", name := "back", desc := "(I)I" } : Jvm.MethodName)) ∈ gT := gT_in (List.mem_append_right _ (List.mem_append_right _ (List.mem_append_right _ (List.mem_append_right _ (List.mem_append_right _ (List.mem_append_right _ (List.mem_append_right _ (List.mem_append_right _ (List.mem_of_getElem? (i := 69) rfl))))))))) rfl
theorem tw_1750 : (Jvm.Cond.instanceMethod ({ cls := "BoyBishopModel", name := "back", desc := "(I)I" } : Jvm.MethodName)) ∈ gT := gT_in (List.mem_append_right _ (List.mem_append_right _ (List.mem_append_right _ (List.mem_append_right _ (List.mem_append_right _ (List.mem_append_right _ (List.mem_append_right _ (List.mem_append_right _ (List.mem_of_getElem? (i := 70) rfl))))))))) rfl
theorem tw_1751 : (Jvm.Cond.selects "BoyBishopModel" ({ cls := "BoyBishopModel", name := "back", desc := "(I)I" } : Jvm.MethodName) ({ cls := "BoyBishopModel", name := "back", desc := "(I)I" } : Jvm.MethodName)) ∈ gT := gT_in (List.mem_append_right _ (List.mem_append_right _ (List.mem_append_right _ (List.mem_append_right _ (List.mem_append_right _ (List.mem_append_right _ (List.mem_append_right _ (List.mem_append_right _ (List.mem_of_getElem? (i := 71) rfl))))))))) rfl
theorem tw_1752 : (Jvm.Cond.code ({ cls := "BoyBishopModel", name := "back", desc := "(I)I" } : Jvm.MethodName) prog_14_method_123_code (3 : Nat) (Option.some Jvm.ClassFile.FieldType.int)) ∈ gT := gT_in (List.mem_append_right _ (List.mem_append_right _ (List.mem_append_right _ (List.mem_append_right _ (List.mem_append_right _ (List.mem_append_right _ (List.mem_append_right _ (List.mem_append_right _ (List.mem_of_getElem? (i := 72) rfl))))))))) rfl
theorem tw_899 : (Jvm.Cond.methodLink "BoyBishopLaw" (82 : Nat) ({ cls := "BoyBishop", name := "votes", desc := "(II)I" } : Jvm.MethodName)) ∈ gT := gT_in (List.mem_append_right _ (List.mem_append_right _ (List.mem_append_right _ (List.mem_append_right _ (List.mem_append_left _ (List.mem_of_getElem? (i := 179) rfl)))))) rfl
theorem tw_900 : (Jvm.Cond.instanceMethod ({ cls := "BoyBishop", name := "votes", desc := "(II)I" } : Jvm.MethodName)) ∈ gT := gT_in (List.mem_append_right _ (List.mem_append_right _ (List.mem_append_right _ (List.mem_append_right _ (List.mem_append_left _ (List.mem_of_getElem? (i := 180) rfl)))))) rfl
theorem tw_901 : (Jvm.Cond.selects "BoyBishop" ({ cls := "BoyBishop", name := "votes", desc := "(II)I" } : Jvm.MethodName) ({ cls := "BoyBishop", name := "votes", desc := "(II)I" } : Jvm.MethodName)) ∈ gT := gT_in (List.mem_append_right _ (List.mem_append_right _ (List.mem_append_right _ (List.mem_append_right _ (List.mem_append_left _ (List.mem_of_getElem? (i := 181) rfl)))))) rfl
theorem tw_902 : (Jvm.Cond.code ({ cls := "BoyBishop", name := "votes", desc := "(II)I" } : Jvm.MethodName) prog_1_method_21_code (3 : Nat) (Option.some Jvm.ClassFile.FieldType.int)) ∈ gT := gT_in (List.mem_append_right _ (List.mem_append_right _ (List.mem_append_right _ (List.mem_append_right _ (List.mem_append_left _ (List.mem_of_getElem? (i := 182) rfl)))))) rfl
theorem tw_904 : (Jvm.Cond.methodLink "BoyBishopLaw" (86 : Nat) ({ cls := "BoyBishop", name := "method", desc := "(I)I" } : Jvm.MethodName)) ∈ gT := gT_in (List.mem_append_right _ (List.mem_append_right _ (List.mem_append_right _ (List.mem_append_right _ (List.mem_append_left _ (List.mem_of_getElem? (i := 184) rfl)))))) rfl
theorem tw_905 : (Jvm.Cond.instanceMethod ({ cls := "BoyBishop", name := "method", desc := "(I)I" } : Jvm.MethodName)) ∈ gT := gT_in (List.mem_append_right _ (List.mem_append_right _ (List.mem_append_right _ (List.mem_append_right _ (List.mem_append_left _ (List.mem_of_getElem? (i := 185) rfl)))))) rfl
theorem tw_906 : (Jvm.Cond.selects "BoyBishop" ({ cls := "BoyBishop", name := "method", desc := "(I)I" } : Jvm.MethodName) ({ cls := "BoyBishop", name := "method", desc := "(I)I" } : Jvm.MethodName)) ∈ gT := gT_in (List.mem_append_right _ (List.mem_append_right _ (List.mem_append_right _ (List.mem_append_right _ (List.mem_append_left _ (List.mem_of_getElem? (i := 186) rfl)))))) rfl
theorem tw_907 : (Jvm.Cond.code ({ cls := "BoyBishop", name := "method", desc := "(I)I" } : Jvm.MethodName) prog_1_method_22_code (2 : Nat) (Option.some Jvm.ClassFile.FieldType.int)) ∈ gT := gT_in (List.mem_append_right _ (List.mem_append_right _ (List.mem_append_right _ (List.mem_append_right _ (List.mem_append_left _ (List.mem_of_getElem? (i := 187) rfl)))))) rfl
theorem tw_937 : (Jvm.Cond.methodLink "BoyBishopLaw" (90 : Nat) ({ cls := "BoyBishop", name := "least", desc := "(I)I" } : Jvm.MethodName)) ∈ gT := gT_in (List.mem_append_right _ (List.mem_append_right _ (List.mem_append_right _ (List.mem_append_right _ (List.mem_append_left _ (List.mem_of_getElem? (i := 217) rfl)))))) rfl
theorem tw_938 : (Jvm.Cond.instanceMethod ({ cls := "BoyBishop", name := "least", desc := "(I)I" } : Jvm.MethodName)) ∈ gT := gT_in (List.mem_append_right _ (List.mem_append_right _ (List.mem_append_right _ (List.mem_append_right _ (List.mem_append_left _ (List.mem_of_getElem? (i := 218) rfl)))))) rfl
theorem tw_939 : (Jvm.Cond.selects "BoyBishop" ({ cls := "BoyBishop", name := "least", desc := "(I)I" } : Jvm.MethodName) ({ cls := "BoyBishop", name := "least", desc := "(I)I" } : Jvm.MethodName)) ∈ gT := gT_in (List.mem_append_right _ (List.mem_append_right _ (List.mem_append_right _ (List.mem_append_right _ (List.mem_append_left _ (List.mem_of_getElem? (i := 219) rfl)))))) rfl
theorem tw_940 : (Jvm.Cond.code ({ cls := "BoyBishop", name := "least", desc := "(I)I" } : Jvm.MethodName) prog_1_method_23_code (3 : Nat) (Option.some Jvm.ClassFile.FieldType.int)) ∈ gT := gT_in (List.mem_append_right _ (List.mem_append_right _ (List.mem_append_right _ (List.mem_append_right _ (List.mem_append_left _ (List.mem_of_getElem? (i := 220) rfl)))))) rfl
theorem tw_941 : (Jvm.Cond.methodLink "BoyBishopLaw" (94 : Nat) ({ cls := "BoyBishop", name := "winOver", desc := "(II)I" } : Jvm.MethodName)) ∈ gT := gT_in (List.mem_append_right _ (List.mem_append_right _ (List.mem_append_right _ (List.mem_append_right _ (List.mem_append_left _ (List.mem_of_getElem? (i := 221) rfl)))))) rfl
theorem tw_942 : (Jvm.Cond.instanceMethod ({ cls := "BoyBishop", name := "winOver", desc := "(II)I" } : Jvm.MethodName)) ∈ gT := gT_in (List.mem_append_right _ (List.mem_append_right _ (List.mem_append_right _ (List.mem_append_right _ (List.mem_append_left _ (List.mem_of_getElem? (i := 222) rfl)))))) rfl
theorem tw_943 : (Jvm.Cond.selects "BoyBishop" ({ cls := "BoyBishop", name := "winOver", desc := "(II)I" } : Jvm.MethodName) ({ cls := "BoyBishop", name := "winOver", desc := "(II)I" } : Jvm.MethodName)) ∈ gT := gT_in (List.mem_append_right _ (List.mem_append_right _ (List.mem_append_right _ (List.mem_append_right _ (List.mem_append_left _ (List.mem_of_getElem? (i := 223) rfl)))))) rfl
theorem tw_944 : (Jvm.Cond.code ({ cls := "BoyBishop", name := "winOver", desc := "(II)I" } : Jvm.MethodName) prog_1_method_24_code (4 : Nat) (Option.some Jvm.ClassFile.FieldType.int)) ∈ gT := gT_in (List.mem_append_right _ (List.mem_append_right _ (List.mem_append_right _ (List.mem_append_right _ (List.mem_append_left _ (List.mem_of_getElem? (i := 224) rfl)))))) rfl
theorem tw_950 : (Jvm.Cond.methodLink "BoyBishopLaw" (98 : Nat) ({ cls := "BoyBishop", name := "rests", desc := "(III)I" } : Jvm.MethodName)) ∈ gT := gT_in (List.mem_append_right _ (List.mem_append_right _ (List.mem_append_right _ (List.mem_append_right _ (List.mem_append_left _ (List.mem_of_getElem? (i := 230) rfl)))))) rfl
theorem tw_951 : (Jvm.Cond.instanceMethod ({ cls := "BoyBishop", name := "rests", desc := "(III)I" } : Jvm.MethodName)) ∈ gT := gT_in (List.mem_append_right _ (List.mem_append_right _ (List.mem_append_right _ (List.mem_append_right _ (List.mem_append_left _ (List.mem_of_getElem? (i := 231) rfl)))))) rfl
theorem tw_952 : (Jvm.Cond.selects "BoyBishop" ({ cls := "BoyBishop", name := "rests", desc := "(III)I" } : Jvm.MethodName) ({ cls := "BoyBishop", name := "rests", desc := "(III)I" } : Jvm.MethodName)) ∈ gT := gT_in (List.mem_append_right _ (List.mem_append_right _ (List.mem_append_right _ (List.mem_append_right _ (List.mem_append_left _ (List.mem_of_getElem? (i := 232) rfl)))))) rfl
theorem tw_953 : (Jvm.Cond.code ({ cls := "BoyBishop", name := "rests", desc := "(III)I" } : Jvm.MethodName) prog_1_method_25_code (5 : Nat) (Option.some Jvm.ClassFile.FieldType.int)) ∈ gT := gT_in (List.mem_append_right _ (List.mem_append_right _ (List.mem_append_right _ (List.mem_append_right _ (List.mem_append_left _ (List.mem_of_getElem? (i := 233) rfl)))))) rfl
theorem tw_975 : (Jvm.Cond.methodLink "BoyBishopLaw" (102 : Nat) ({ cls := "BoyBishop", name := "round", desc := "(I)I" } : Jvm.MethodName)) ∈ gT := gT_in (List.mem_append_right _ (List.mem_append_right _ (List.mem_append_right _ (List.mem_append_right _ (List.mem_append_right _ (List.mem_append_left _ (List.mem_of_getElem? (i := 15) rfl))))))) rfl
theorem tw_976 : (Jvm.Cond.instanceMethod ({ cls := "BoyBishop", name := "round", desc := "(I)I" } : Jvm.MethodName)) ∈ gT := gT_in (List.mem_append_right _ (List.mem_append_right _ (List.mem_append_right _ (List.mem_append_right _ (List.mem_append_right _ (List.mem_append_left _ (List.mem_of_getElem? (i := 16) rfl))))))) rfl
theorem tw_977 : (Jvm.Cond.selects "BoyBishop" ({ cls := "BoyBishop", name := "round", desc := "(I)I" } : Jvm.MethodName) ({ cls := "BoyBishop", name := "round", desc := "(I)I" } : Jvm.MethodName)) ∈ gT := gT_in (List.mem_append_right _ (List.mem_append_right _ (List.mem_append_right _ (List.mem_append_right _ (List.mem_append_right _ (List.mem_append_left _ (List.mem_of_getElem? (i := 17) rfl))))))) rfl
theorem tw_978 : (Jvm.Cond.code ({ cls := "BoyBishop", name := "round", desc := "(I)I" } : Jvm.MethodName) prog_1_method_26_code (3 : Nat) (Option.some Jvm.ClassFile.FieldType.int)) ∈ gT := gT_in (List.mem_append_right _ (List.mem_append_right _ (List.mem_append_right _ (List.mem_append_right _ (List.mem_append_right _ (List.mem_append_left _ (List.mem_of_getElem? (i := 18) rfl))))))) rfl
theorem tw_994 : (Jvm.Cond.methodLink "BoyBishopLaw" (106 : Nat) ({ cls := "BoyBishop", name := "falls", desc := "(II)I" } : Jvm.MethodName)) ∈ gT := gT_in (List.mem_append_right _ (List.mem_append_right _ (List.mem_append_right _ (List.mem_append_right _ (List.mem_append_right _ (List.mem_append_left _ (List.mem_of_getElem? (i := 34) rfl))))))) rfl
theorem tw_995 : (Jvm.Cond.instanceMethod ({ cls := "BoyBishop", name := "falls", desc := "(II)I" } : Jvm.MethodName)) ∈ gT := gT_in (List.mem_append_right _ (List.mem_append_right _ (List.mem_append_right _ (List.mem_append_right _ (List.mem_append_right _ (List.mem_append_left _ (List.mem_of_getElem? (i := 35) rfl))))))) rfl
theorem tw_996 : (Jvm.Cond.selects "BoyBishop" ({ cls := "BoyBishop", name := "falls", desc := "(II)I" } : Jvm.MethodName) ({ cls := "BoyBishop", name := "falls", desc := "(II)I" } : Jvm.MethodName)) ∈ gT := gT_in (List.mem_append_right _ (List.mem_append_right _ (List.mem_append_right _ (List.mem_append_right _ (List.mem_append_right _ (List.mem_append_left _ (List.mem_of_getElem? (i := 36) rfl))))))) rfl
theorem tw_997 : (Jvm.Cond.code ({ cls := "BoyBishop", name := "falls", desc := "(II)I" } : Jvm.MethodName) prog_1_method_28_code (4 : Nat) (Option.some Jvm.ClassFile.FieldType.int)) ∈ gT := gT_in (List.mem_append_right _ (List.mem_append_right _ (List.mem_append_right _ (List.mem_append_right _ (List.mem_append_right _ (List.mem_append_left _ (List.mem_of_getElem? (i := 37) rfl))))))) rfl
theorem dL_law_628 : decode cL_law 628 = .ok (.aload_n 1, 1) := by decide +kernel
theorem dL_law_629 : decode cL_law 629 = .ok (.aload_n 0, 1) := by decide +kernel
theorem dL_law_630 : decode cL_law 630 = .ok (.iload_n 3, 1) := by decide +kernel
theorem dL_law_631 : decode cL_law 631 = .ok (.iconst 1, 1) := by decide +kernel
theorem dL_law_632 : decode cL_law 632 = .ok (.iadd, 1) := by decide +kernel
theorem dL_law_633 : decode cL_law 633 = .ok (.iaload, 1) := by decide +kernel
theorem dL_law_634 : decode cL_law 634 = .ok (.aload_n 0, 1) := by decide +kernel
theorem dL_law_635 : decode cL_law 635 = .ok (.iload_n 3, 1) := by decide +kernel
theorem dL_law_636 : decode cL_law 636 = .ok (.iconst 2, 1) := by decide +kernel
theorem dL_law_637 : decode cL_law 637 = .ok (.iadd, 1) := by decide +kernel
theorem dL_law_638 : decode cL_law 638 = .ok (.iaload, 1) := by decide +kernel
theorem dL_law_639 : decode cL_law 639 = .ok (.invokevirtual 82, 3) := by decide +kernel
theorem dL_law_642 : decode cL_law 642 = .ok (.pop, 1) := by decide +kernel
theorem dL_law_643 : decode cL_law 643 = .ok (.aload_n 2, 1) := by decide +kernel
theorem dL_law_644 : decode cL_law 644 = .ok (.aload_n 0, 1) := by decide +kernel
theorem dL_law_645 : decode cL_law 645 = .ok (.iload_n 3, 1) := by decide +kernel
theorem dL_law_646 : decode cL_law 646 = .ok (.iconst 1, 1) := by decide +kernel
theorem dL_law_647 : decode cL_law 647 = .ok (.iadd, 1) := by decide +kernel
theorem dL_law_648 : decode cL_law 648 = .ok (.iaload, 1) := by decide +kernel
theorem dL_law_649 : decode cL_law 649 = .ok (.aload_n 0, 1) := by decide +kernel
theorem dL_law_650 : decode cL_law 650 = .ok (.iload_n 3, 1) := by decide +kernel
theorem dL_law_651 : decode cL_law 651 = .ok (.iconst 2, 1) := by decide +kernel
theorem dL_law_652 : decode cL_law 652 = .ok (.iadd, 1) := by decide +kernel
theorem dL_law_653 : decode cL_law 653 = .ok (.iaload, 1) := by decide +kernel
theorem dL_law_654 : decode cL_law 654 = .ok (.invokevirtual 85, 3) := by decide +kernel
theorem dL_law_657 : decode cL_law 657 = .ok (.pop, 1) := by decide +kernel
theorem dL_law_658 : decode cL_law 658 = .ok (.goto 461, 3) := by decide +kernel
theorem dL_law_661 : decode cL_law 661 = .ok (.aload_n 1, 1) := by decide +kernel
theorem dL_law_662 : decode cL_law 662 = .ok (.aload_n 0, 1) := by decide +kernel
theorem dL_law_663 : decode cL_law 663 = .ok (.iload_n 3, 1) := by decide +kernel
theorem dL_law_664 : decode cL_law 664 = .ok (.iconst 1, 1) := by decide +kernel
theorem dL_law_665 : decode cL_law 665 = .ok (.iadd, 1) := by decide +kernel
theorem dL_law_666 : decode cL_law 666 = .ok (.iaload, 1) := by decide +kernel
theorem dL_law_667 : decode cL_law 667 = .ok (.invokevirtual 86, 3) := by decide +kernel
theorem dL_law_670 : decode cL_law 670 = .ok (.pop, 1) := by decide +kernel
theorem dL_law_671 : decode cL_law 671 = .ok (.aload_n 2, 1) := by decide +kernel
theorem dL_law_672 : decode cL_law 672 = .ok (.aload_n 0, 1) := by decide +kernel
theorem dL_law_673 : decode cL_law 673 = .ok (.iload_n 3, 1) := by decide +kernel
theorem dL_law_674 : decode cL_law 674 = .ok (.iconst 1, 1) := by decide +kernel
theorem dL_law_675 : decode cL_law 675 = .ok (.iadd, 1) := by decide +kernel
theorem dL_law_676 : decode cL_law 676 = .ok (.iaload, 1) := by decide +kernel
theorem dL_law_677 : decode cL_law 677 = .ok (.invokevirtual 89, 3) := by decide +kernel
theorem dL_law_680 : decode cL_law 680 = .ok (.pop, 1) := by decide +kernel
theorem dL_law_681 : decode cL_law 681 = .ok (.goto 438, 3) := by decide +kernel
theorem dL_law_684 : decode cL_law 684 = .ok (.aload_n 1, 1) := by decide +kernel
theorem dL_law_685 : decode cL_law 685 = .ok (.aload_n 0, 1) := by decide +kernel
theorem dL_law_686 : decode cL_law 686 = .ok (.iload_n 3, 1) := by decide +kernel
theorem dL_law_687 : decode cL_law 687 = .ok (.iconst 1, 1) := by decide +kernel
theorem dL_law_688 : decode cL_law 688 = .ok (.iadd, 1) := by decide +kernel
theorem dL_law_689 : decode cL_law 689 = .ok (.iaload, 1) := by decide +kernel
theorem dL_law_690 : decode cL_law 690 = .ok (.invokevirtual 90, 3) := by decide +kernel
theorem dL_law_693 : decode cL_law 693 = .ok (.pop, 1) := by decide +kernel
theorem dL_law_694 : decode cL_law 694 = .ok (.aload_n 2, 1) := by decide +kernel
theorem dL_law_695 : decode cL_law 695 = .ok (.aload_n 0, 1) := by decide +kernel
theorem dL_law_696 : decode cL_law 696 = .ok (.iload_n 3, 1) := by decide +kernel
theorem dL_law_697 : decode cL_law 697 = .ok (.iconst 1, 1) := by decide +kernel
theorem dL_law_698 : decode cL_law 698 = .ok (.iadd, 1) := by decide +kernel
theorem dL_law_699 : decode cL_law 699 = .ok (.iaload, 1) := by decide +kernel
theorem dL_law_700 : decode cL_law 700 = .ok (.invokevirtual 93, 3) := by decide +kernel
theorem dL_law_703 : decode cL_law 703 = .ok (.pop, 1) := by decide +kernel
theorem dL_law_704 : decode cL_law 704 = .ok (.goto 415, 3) := by decide +kernel
theorem dL_law_707 : decode cL_law 707 = .ok (.aload_n 1, 1) := by decide +kernel
theorem dL_law_708 : decode cL_law 708 = .ok (.aload_n 0, 1) := by decide +kernel
theorem dL_law_709 : decode cL_law 709 = .ok (.iload_n 3, 1) := by decide +kernel
theorem dL_law_710 : decode cL_law 710 = .ok (.iconst 1, 1) := by decide +kernel
theorem dL_law_711 : decode cL_law 711 = .ok (.iadd, 1) := by decide +kernel
theorem dL_law_712 : decode cL_law 712 = .ok (.iaload, 1) := by decide +kernel
theorem dL_law_713 : decode cL_law 713 = .ok (.aload_n 0, 1) := by decide +kernel
theorem dL_law_714 : decode cL_law 714 = .ok (.iload_n 3, 1) := by decide +kernel
theorem dL_law_715 : decode cL_law 715 = .ok (.iconst 2, 1) := by decide +kernel
theorem dL_law_716 : decode cL_law 716 = .ok (.iadd, 1) := by decide +kernel
theorem dL_law_717 : decode cL_law 717 = .ok (.iaload, 1) := by decide +kernel
theorem dL_law_718 : decode cL_law 718 = .ok (.invokevirtual 94, 3) := by decide +kernel
theorem dL_law_721 : decode cL_law 721 = .ok (.pop, 1) := by decide +kernel
theorem dL_law_722 : decode cL_law 722 = .ok (.aload_n 2, 1) := by decide +kernel
theorem dL_law_723 : decode cL_law 723 = .ok (.aload_n 0, 1) := by decide +kernel
theorem dL_law_724 : decode cL_law 724 = .ok (.iload_n 3, 1) := by decide +kernel
theorem dL_law_725 : decode cL_law 725 = .ok (.iconst 1, 1) := by decide +kernel
theorem dL_law_726 : decode cL_law 726 = .ok (.iadd, 1) := by decide +kernel
theorem dL_law_727 : decode cL_law 727 = .ok (.iaload, 1) := by decide +kernel
theorem dL_law_728 : decode cL_law 728 = .ok (.aload_n 0, 1) := by decide +kernel
theorem dL_law_729 : decode cL_law 729 = .ok (.iload_n 3, 1) := by decide +kernel
theorem dL_law_730 : decode cL_law 730 = .ok (.iconst 2, 1) := by decide +kernel
theorem dL_law_731 : decode cL_law 731 = .ok (.iadd, 1) := by decide +kernel
theorem dL_law_732 : decode cL_law 732 = .ok (.iaload, 1) := by decide +kernel
theorem dL_law_733 : decode cL_law 733 = .ok (.invokevirtual 97, 3) := by decide +kernel
theorem dL_law_736 : decode cL_law 736 = .ok (.pop, 1) := by decide +kernel
theorem dL_law_737 : decode cL_law 737 = .ok (.goto 382, 3) := by decide +kernel
theorem dL_law_740 : decode cL_law 740 = .ok (.aload_n 1, 1) := by decide +kernel
theorem dL_law_741 : decode cL_law 741 = .ok (.aload_n 0, 1) := by decide +kernel
theorem dL_law_742 : decode cL_law 742 = .ok (.iload_n 3, 1) := by decide +kernel
theorem dL_law_743 : decode cL_law 743 = .ok (.iconst 1, 1) := by decide +kernel
theorem dL_law_744 : decode cL_law 744 = .ok (.iadd, 1) := by decide +kernel
theorem dL_law_745 : decode cL_law 745 = .ok (.iaload, 1) := by decide +kernel
theorem dL_law_746 : decode cL_law 746 = .ok (.aload_n 0, 1) := by decide +kernel
theorem dL_law_747 : decode cL_law 747 = .ok (.iload_n 3, 1) := by decide +kernel
theorem dL_law_748 : decode cL_law 748 = .ok (.iconst 2, 1) := by decide +kernel
theorem dL_law_749 : decode cL_law 749 = .ok (.iadd, 1) := by decide +kernel
theorem dL_law_750 : decode cL_law 750 = .ok (.iaload, 1) := by decide +kernel
theorem dL_law_751 : decode cL_law 751 = .ok (.aload_n 0, 1) := by decide +kernel
theorem dL_law_752 : decode cL_law 752 = .ok (.iload_n 3, 1) := by decide +kernel
theorem dL_law_753 : decode cL_law 753 = .ok (.iconst 3, 1) := by decide +kernel
theorem dL_law_754 : decode cL_law 754 = .ok (.iadd, 1) := by decide +kernel
theorem dL_law_755 : decode cL_law 755 = .ok (.iaload, 1) := by decide +kernel
theorem dL_law_756 : decode cL_law 756 = .ok (.invokevirtual 98, 3) := by decide +kernel
theorem dL_law_759 : decode cL_law 759 = .ok (.pop, 1) := by decide +kernel
theorem dL_law_760 : decode cL_law 760 = .ok (.aload_n 2, 1) := by decide +kernel
theorem dL_law_761 : decode cL_law 761 = .ok (.aload_n 0, 1) := by decide +kernel
theorem dL_law_762 : decode cL_law 762 = .ok (.iload_n 3, 1) := by decide +kernel
theorem dL_law_763 : decode cL_law 763 = .ok (.iconst 1, 1) := by decide +kernel
theorem dL_law_764 : decode cL_law 764 = .ok (.iadd, 1) := by decide +kernel
theorem dL_law_765 : decode cL_law 765 = .ok (.iaload, 1) := by decide +kernel
theorem dL_law_766 : decode cL_law 766 = .ok (.aload_n 0, 1) := by decide +kernel
theorem dL_law_767 : decode cL_law 767 = .ok (.iload_n 3, 1) := by decide +kernel
theorem dL_law_768 : decode cL_law 768 = .ok (.iconst 2, 1) := by decide +kernel
theorem dL_law_769 : decode cL_law 769 = .ok (.iadd, 1) := by decide +kernel
theorem dL_law_770 : decode cL_law 770 = .ok (.iaload, 1) := by decide +kernel
theorem dL_law_771 : decode cL_law 771 = .ok (.aload_n 0, 1) := by decide +kernel
theorem dL_law_772 : decode cL_law 772 = .ok (.iload_n 3, 1) := by decide +kernel
theorem dL_law_773 : decode cL_law 773 = .ok (.iconst 3, 1) := by decide +kernel
theorem dL_law_774 : decode cL_law 774 = .ok (.iadd, 1) := by decide +kernel
theorem dL_law_775 : decode cL_law 775 = .ok (.iaload, 1) := by decide +kernel
theorem dL_law_776 : decode cL_law 776 = .ok (.invokevirtual 101, 3) := by decide +kernel
theorem dL_law_779 : decode cL_law 779 = .ok (.pop, 1) := by decide +kernel
theorem dL_law_780 : decode cL_law 780 = .ok (.goto 339, 3) := by decide +kernel
theorem dL_law_783 : decode cL_law 783 = .ok (.aload_n 1, 1) := by decide +kernel
theorem dL_law_784 : decode cL_law 784 = .ok (.aload_n 0, 1) := by decide +kernel
theorem dL_law_785 : decode cL_law 785 = .ok (.iload_n 3, 1) := by decide +kernel
theorem dL_law_786 : decode cL_law 786 = .ok (.iconst 1, 1) := by decide +kernel
theorem dL_law_787 : decode cL_law 787 = .ok (.iadd, 1) := by decide +kernel
theorem dL_law_788 : decode cL_law 788 = .ok (.iaload, 1) := by decide +kernel
theorem dL_law_789 : decode cL_law 789 = .ok (.invokevirtual 102, 3) := by decide +kernel
theorem dL_law_792 : decode cL_law 792 = .ok (.pop, 1) := by decide +kernel
theorem dL_law_793 : decode cL_law 793 = .ok (.aload_n 2, 1) := by decide +kernel
theorem dL_law_794 : decode cL_law 794 = .ok (.aload_n 0, 1) := by decide +kernel
theorem dL_law_795 : decode cL_law 795 = .ok (.iload_n 3, 1) := by decide +kernel
theorem dL_law_796 : decode cL_law 796 = .ok (.iconst 1, 1) := by decide +kernel
theorem dL_law_797 : decode cL_law 797 = .ok (.iadd, 1) := by decide +kernel
theorem dL_law_798 : decode cL_law 798 = .ok (.iaload, 1) := by decide +kernel
theorem dL_law_799 : decode cL_law 799 = .ok (.invokevirtual 105, 3) := by decide +kernel
theorem dL_law_802 : decode cL_law 802 = .ok (.pop, 1) := by decide +kernel
theorem dL_law_803 : decode cL_law 803 = .ok (.goto 316, 3) := by decide +kernel
theorem dL_law_806 : decode cL_law 806 = .ok (.aload_n 1, 1) := by decide +kernel
theorem dL_law_807 : decode cL_law 807 = .ok (.aload_n 0, 1) := by decide +kernel
theorem dL_law_808 : decode cL_law 808 = .ok (.iload_n 3, 1) := by decide +kernel
theorem dL_law_809 : decode cL_law 809 = .ok (.iconst 1, 1) := by decide +kernel
theorem dL_law_810 : decode cL_law 810 = .ok (.iadd, 1) := by decide +kernel
theorem dL_law_811 : decode cL_law 811 = .ok (.iaload, 1) := by decide +kernel
theorem dL_law_812 : decode cL_law 812 = .ok (.aload_n 0, 1) := by decide +kernel
theorem dL_law_813 : decode cL_law 813 = .ok (.iload_n 3, 1) := by decide +kernel
theorem dL_law_814 : decode cL_law 814 = .ok (.iconst 2, 1) := by decide +kernel
theorem dL_law_815 : decode cL_law 815 = .ok (.iadd, 1) := by decide +kernel
theorem dL_law_816 : decode cL_law 816 = .ok (.iaload, 1) := by decide +kernel
theorem dL_law_817 : decode cL_law 817 = .ok (.invokevirtual 106, 3) := by decide +kernel
theorem dL_law_820 : decode cL_law 820 = .ok (.pop, 1) := by decide +kernel
theorem dL_law_821 : decode cL_law 821 = .ok (.aload_n 2, 1) := by decide +kernel
theorem dL_law_822 : decode cL_law 822 = .ok (.aload_n 0, 1) := by decide +kernel
theorem dL_law_823 : decode cL_law 823 = .ok (.iload_n 3, 1) := by decide +kernel
theorem dL_law_824 : decode cL_law 824 = .ok (.iconst 1, 1) := by decide +kernel
theorem dL_law_825 : decode cL_law 825 = .ok (.iadd, 1) := by decide +kernel
theorem dL_law_826 : decode cL_law 826 = .ok (.iaload, 1) := by decide +kernel
theorem dL_law_827 : decode cL_law 827 = .ok (.aload_n 0, 1) := by decide +kernel
theorem dL_law_828 : decode cL_law 828 = .ok (.iload_n 3, 1) := by decide +kernel
theorem dL_law_829 : decode cL_law 829 = .ok (.iconst 2, 1) := by decide +kernel
theorem dL_law_830 : decode cL_law 830 = .ok (.iadd, 1) := by decide +kernel
theorem dL_law_831 : decode cL_law 831 = .ok (.iaload, 1) := by decide +kernel
theorem dL_law_832 : decode cL_law 832 = .ok (.invokevirtual 109, 3) := by decide +kernel
theorem dL_law_835 : decode cL_law 835 = .ok (.pop, 1) := by decide +kernel
theorem dL_law_836 : decode cL_law 836 = .ok (.goto 283, 3) := by decide +kernel
theorem dL_law_839 : decode cL_law 839 = .ok (.aload_n 1, 1) := by decide +kernel
theorem dL_law_840 : decode cL_law 840 = .ok (.aload_n 0, 1) := by decide +kernel
theorem dL_law_841 : decode cL_law 841 = .ok (.iload_n 3, 1) := by decide +kernel
theorem dL_law_842 : decode cL_law 842 = .ok (.iconst 1, 1) := by decide +kernel
theorem dL_law_843 : decode cL_law 843 = .ok (.iadd, 1) := by decide +kernel
theorem dL_law_844 : decode cL_law 844 = .ok (.iaload, 1) := by decide +kernel
theorem dL_law_845 : decode cL_law 845 = .ok (.aload_n 0, 1) := by decide +kernel
theorem dL_law_846 : decode cL_law 846 = .ok (.iload_n 3, 1) := by decide +kernel
theorem dL_law_847 : decode cL_law 847 = .ok (.iconst 2, 1) := by decide +kernel
theorem dL_law_848 : decode cL_law 848 = .ok (.iadd, 1) := by decide +kernel
theorem dL_law_849 : decode cL_law 849 = .ok (.iaload, 1) := by decide +kernel
theorem dL_law_850 : decode cL_law 850 = .ok (.invokevirtual 110, 3) := by decide +kernel
theorem dL_law_853 : decode cL_law 853 = .ok (.pop, 1) := by decide +kernel
theorem dL_law_854 : decode cL_law 854 = .ok (.aload_n 2, 1) := by decide +kernel
theorem dL_law_855 : decode cL_law 855 = .ok (.aload_n 0, 1) := by decide +kernel
theorem dL_law_856 : decode cL_law 856 = .ok (.iload_n 3, 1) := by decide +kernel
theorem dL_law_857 : decode cL_law 857 = .ok (.iconst 1, 1) := by decide +kernel
theorem dL_law_858 : decode cL_law 858 = .ok (.iadd, 1) := by decide +kernel
theorem dL_law_859 : decode cL_law 859 = .ok (.iaload, 1) := by decide +kernel
theorem dL_law_860 : decode cL_law 860 = .ok (.aload_n 0, 1) := by decide +kernel
theorem dL_law_861 : decode cL_law 861 = .ok (.iload_n 3, 1) := by decide +kernel
theorem dL_law_862 : decode cL_law 862 = .ok (.iconst 2, 1) := by decide +kernel
theorem dL_law_863 : decode cL_law 863 = .ok (.iadd, 1) := by decide +kernel
theorem dL_law_864 : decode cL_law 864 = .ok (.iaload, 1) := by decide +kernel
theorem dL_law_865 : decode cL_law 865 = .ok (.invokevirtual 113, 3) := by decide +kernel
theorem dL_law_868 : decode cL_law 868 = .ok (.pop, 1) := by decide +kernel
theorem dL_law_869 : decode cL_law 869 = .ok (.goto 250, 3) := by decide +kernel
theorem dL_law_872 : decode cL_law 872 = .ok (.aload_n 1, 1) := by decide +kernel
theorem dL_law_873 : decode cL_law 873 = .ok (.aload_n 0, 1) := by decide +kernel
theorem dL_law_874 : decode cL_law 874 = .ok (.iload_n 3, 1) := by decide +kernel
theorem dL_law_875 : decode cL_law 875 = .ok (.iconst 1, 1) := by decide +kernel
theorem dL_law_876 : decode cL_law 876 = .ok (.iadd, 1) := by decide +kernel
theorem dL_law_877 : decode cL_law 877 = .ok (.iaload, 1) := by decide +kernel
theorem dL_law_878 : decode cL_law 878 = .ok (.invokevirtual 114, 3) := by decide +kernel
theorem dL_law_881 : decode cL_law 881 = .ok (.pop, 1) := by decide +kernel
theorem dL_law_882 : decode cL_law 882 = .ok (.aload_n 2, 1) := by decide +kernel
theorem dL_law_883 : decode cL_law 883 = .ok (.aload_n 0, 1) := by decide +kernel
theorem dL_law_884 : decode cL_law 884 = .ok (.iload_n 3, 1) := by decide +kernel
theorem dL_law_885 : decode cL_law 885 = .ok (.iconst 1, 1) := by decide +kernel
theorem dL_law_886 : decode cL_law 886 = .ok (.iadd, 1) := by decide +kernel
theorem dL_law_887 : decode cL_law 887 = .ok (.iaload, 1) := by decide +kernel
theorem dL_law_888 : decode cL_law 888 = .ok (.invokevirtual 117, 3) := by decide +kernel
theorem dL_law_891 : decode cL_law 891 = .ok (.pop, 1) := by decide +kernel
theorem dL_law_892 : decode cL_law 892 = .ok (.goto 227, 3) := by decide +kernel
theorem dL_law_895 : decode cL_law 895 = .ok (.aload_n 1, 1) := by decide +kernel
theorem dL_law_896 : decode cL_law 896 = .ok (.aload_n 0, 1) := by decide +kernel
theorem dL_law_897 : decode cL_law 897 = .ok (.iload_n 3, 1) := by decide +kernel
theorem dL_law_898 : decode cL_law 898 = .ok (.iconst 1, 1) := by decide +kernel
theorem dL_law_899 : decode cL_law 899 = .ok (.iadd, 1) := by decide +kernel
theorem dL_law_900 : decode cL_law 900 = .ok (.iaload, 1) := by decide +kernel
theorem dL_law_901 : decode cL_law 901 = .ok (.aload_n 0, 1) := by decide +kernel
theorem dL_law_902 : decode cL_law 902 = .ok (.iload_n 3, 1) := by decide +kernel
theorem dL_law_903 : decode cL_law 903 = .ok (.iconst 2, 1) := by decide +kernel
theorem dL_law_904 : decode cL_law 904 = .ok (.iadd, 1) := by decide +kernel
theorem dL_law_905 : decode cL_law 905 = .ok (.iaload, 1) := by decide +kernel
theorem dL_law_906 : decode cL_law 906 = .ok (.invokevirtual 118, 3) := by decide +kernel
theorem dL_law_909 : decode cL_law 909 = .ok (.pop, 1) := by decide +kernel
theorem dL_law_910 : decode cL_law 910 = .ok (.aload_n 2, 1) := by decide +kernel
theorem dL_law_911 : decode cL_law 911 = .ok (.aload_n 0, 1) := by decide +kernel
theorem dL_law_912 : decode cL_law 912 = .ok (.iload_n 3, 1) := by decide +kernel
theorem dL_law_913 : decode cL_law 913 = .ok (.iconst 1, 1) := by decide +kernel
theorem dL_law_914 : decode cL_law 914 = .ok (.iadd, 1) := by decide +kernel
theorem dL_law_915 : decode cL_law 915 = .ok (.iaload, 1) := by decide +kernel
theorem dL_law_916 : decode cL_law 916 = .ok (.aload_n 0, 1) := by decide +kernel
theorem dL_law_917 : decode cL_law 917 = .ok (.iload_n 3, 1) := by decide +kernel
theorem dL_law_918 : decode cL_law 918 = .ok (.iconst 2, 1) := by decide +kernel
theorem dL_law_919 : decode cL_law 919 = .ok (.iadd, 1) := by decide +kernel
theorem dL_law_920 : decode cL_law 920 = .ok (.iaload, 1) := by decide +kernel
theorem dL_law_921 : decode cL_law 921 = .ok (.invokevirtual 121, 3) := by decide +kernel
theorem dL_law_924 : decode cL_law 924 = .ok (.pop, 1) := by decide +kernel
theorem dL_law_925 : decode cL_law 925 = .ok (.goto 194, 3) := by decide +kernel
theorem dL_law_928 : decode cL_law 928 = .ok (.aload_n 1, 1) := by decide +kernel
theorem dL_law_929 : decode cL_law 929 = .ok (.aload_n 0, 1) := by decide +kernel
theorem dL_law_930 : decode cL_law 930 = .ok (.iload_n 3, 1) := by decide +kernel
theorem dL_law_931 : decode cL_law 931 = .ok (.iconst 1, 1) := by decide +kernel
theorem dL_law_932 : decode cL_law 932 = .ok (.iadd, 1) := by decide +kernel
theorem dL_law_933 : decode cL_law 933 = .ok (.iaload, 1) := by decide +kernel
theorem dL_law_934 : decode cL_law 934 = .ok (.invokevirtual 122, 3) := by decide +kernel
theorem dL_law_937 : decode cL_law 937 = .ok (.pop, 1) := by decide +kernel
theorem dL_law_938 : decode cL_law 938 = .ok (.aload_n 2, 1) := by decide +kernel
theorem dL_law_939 : decode cL_law 939 = .ok (.aload_n 0, 1) := by decide +kernel
theorem dL_law_940 : decode cL_law 940 = .ok (.iload_n 3, 1) := by decide +kernel
theorem dL_law_941 : decode cL_law 941 = .ok (.iconst 1, 1) := by decide +kernel
theorem dL_law_942 : decode cL_law 942 = .ok (.iadd, 1) := by decide +kernel
theorem dL_law_943 : decode cL_law 943 = .ok (.iaload, 1) := by decide +kernel
theorem dL_law_944 : decode cL_law 944 = .ok (.invokevirtual 125, 3) := by decide +kernel
theorem dL_law_947 : decode cL_law 947 = .ok (.pop, 1) := by decide +kernel
theorem dL_law_948 : decode cL_law 948 = .ok (.goto 171, 3) := by decide +kernel
theorem dL_law_951 : decode cL_law 951 = .ok (.aload_n 1, 1) := by decide +kernel
theorem dL_law_952 : decode cL_law 952 = .ok (.aload_n 0, 1) := by decide +kernel
theorem dL_law_953 : decode cL_law 953 = .ok (.iload_n 3, 1) := by decide +kernel
theorem dL_law_954 : decode cL_law 954 = .ok (.iconst 1, 1) := by decide +kernel
theorem dL_law_955 : decode cL_law 955 = .ok (.iadd, 1) := by decide +kernel
theorem dL_law_956 : decode cL_law 956 = .ok (.iaload, 1) := by decide +kernel
theorem dL_law_957 : decode cL_law 957 = .ok (.invokevirtual 126, 3) := by decide +kernel
theorem dL_law_960 : decode cL_law 960 = .ok (.pop, 1) := by decide +kernel
theorem dL_law_961 : decode cL_law 961 = .ok (.aload_n 2, 1) := by decide +kernel
theorem dL_law_962 : decode cL_law 962 = .ok (.aload_n 0, 1) := by decide +kernel
theorem dL_law_963 : decode cL_law 963 = .ok (.iload_n 3, 1) := by decide +kernel
theorem dL_law_964 : decode cL_law 964 = .ok (.iconst 1, 1) := by decide +kernel
theorem dL_law_965 : decode cL_law 965 = .ok (.iadd, 1) := by decide +kernel
theorem dL_law_966 : decode cL_law 966 = .ok (.iaload, 1) := by decide +kernel
theorem dL_law_967 : decode cL_law 967 = .ok (.invokevirtual 129, 3) := by decide +kernel
theorem dL_law_970 : decode cL_law 970 = .ok (.pop, 1) := by decide +kernel
theorem dL_law_971 : decode cL_law 971 = .ok (.goto 148, 3) := by decide +kernel
theorem dL_law_974 : decode cL_law 974 = .ok (.aload_n 1, 1) := by decide +kernel
theorem dL_law_975 : decode cL_law 975 = .ok (.aload_n 0, 1) := by decide +kernel
theorem dL_law_976 : decode cL_law 976 = .ok (.iload_n 3, 1) := by decide +kernel
theorem dL_law_977 : decode cL_law 977 = .ok (.iconst 1, 1) := by decide +kernel
theorem dL_law_978 : decode cL_law 978 = .ok (.iadd, 1) := by decide +kernel
theorem dL_law_979 : decode cL_law 979 = .ok (.iaload, 1) := by decide +kernel
theorem dL_law_980 : decode cL_law 980 = .ok (.invokevirtual 130, 3) := by decide +kernel
theorem dL_law_983 : decode cL_law 983 = .ok (.aload_n 2, 1) := by decide +kernel
theorem dL_law_984 : decode cL_law 984 = .ok (.aload_n 0, 1) := by decide +kernel
theorem dL_law_985 : decode cL_law 985 = .ok (.iload_n 3, 1) := by decide +kernel
theorem dL_law_986 : decode cL_law 986 = .ok (.iconst 1, 1) := by decide +kernel
theorem dL_law_987 : decode cL_law 987 = .ok (.iadd, 1) := by decide +kernel
theorem dL_law_988 : decode cL_law 988 = .ok (.iaload, 1) := by decide +kernel
theorem dL_law_989 : decode cL_law 989 = .ok (.invokevirtual 133, 3) := by decide +kernel
theorem dL_law_992 : decode cL_law 992 = .ok (.if_icmp .eq 127, 3) := by decide +kernel
theorem dL_law_997 : decode cL_law 997 = .ok (.aload_n 1, 1) := by decide +kernel
theorem dL_law_998 : decode cL_law 998 = .ok (.aload_n 0, 1) := by decide +kernel
theorem dL_law_999 : decode cL_law 999 = .ok (.iload_n 3, 1) := by decide +kernel
theorem dL_law_1000 : decode cL_law 1000 = .ok (.iconst 1, 1) := by decide +kernel
theorem dL_law_1001 : decode cL_law 1001 = .ok (.iadd, 1) := by decide +kernel
theorem dL_law_1002 : decode cL_law 1002 = .ok (.iaload, 1) := by decide +kernel
theorem dL_law_1003 : decode cL_law 1003 = .ok (.aload_n 0, 1) := by decide +kernel
theorem dL_law_1004 : decode cL_law 1004 = .ok (.iload_n 3, 1) := by decide +kernel
theorem dL_law_1005 : decode cL_law 1005 = .ok (.iconst 2, 1) := by decide +kernel
theorem dL_law_1006 : decode cL_law 1006 = .ok (.iadd, 1) := by decide +kernel
theorem dL_law_1007 : decode cL_law 1007 = .ok (.iaload, 1) := by decide +kernel
theorem dL_law_1008 : decode cL_law 1008 = .ok (.aload_n 0, 1) := by decide +kernel
theorem dL_law_1009 : decode cL_law 1009 = .ok (.iload_n 3, 1) := by decide +kernel
theorem dL_law_1010 : decode cL_law 1010 = .ok (.iconst 3, 1) := by decide +kernel
theorem dL_law_1011 : decode cL_law 1011 = .ok (.iadd, 1) := by decide +kernel
theorem dL_law_1012 : decode cL_law 1012 = .ok (.iaload, 1) := by decide +kernel
theorem dL_law_1013 : decode cL_law 1013 = .ok (.aload_n 0, 1) := by decide +kernel
theorem dL_law_1014 : decode cL_law 1014 = .ok (.iload_n 3, 1) := by decide +kernel
theorem dL_law_1015 : decode cL_law 1015 = .ok (.iconst 4, 1) := by decide +kernel
theorem dL_law_1016 : decode cL_law 1016 = .ok (.iadd, 1) := by decide +kernel
theorem dL_law_1017 : decode cL_law 1017 = .ok (.iaload, 1) := by decide +kernel
theorem dL_law_1018 : decode cL_law 1018 = .ok (.invokevirtual 134, 3) := by decide +kernel
theorem dL_law_1021 : decode cL_law 1021 = .ok (.pop, 1) := by decide +kernel
theorem dL_law_1022 : decode cL_law 1022 = .ok (.aload_n 2, 1) := by decide +kernel
theorem dL_law_1023 : decode cL_law 1023 = .ok (.aload_n 0, 1) := by decide +kernel
theorem dL_law_1024 : decode cL_law 1024 = .ok (.iload_n 3, 1) := by decide +kernel
theorem dL_law_1025 : decode cL_law 1025 = .ok (.iconst 1, 1) := by decide +kernel
theorem dL_law_1026 : decode cL_law 1026 = .ok (.iadd, 1) := by decide +kernel
theorem dL_law_1027 : decode cL_law 1027 = .ok (.iaload, 1) := by decide +kernel
theorem dL_law_1028 : decode cL_law 1028 = .ok (.aload_n 0, 1) := by decide +kernel
theorem dL_law_1029 : decode cL_law 1029 = .ok (.iload_n 3, 1) := by decide +kernel
theorem dL_law_1030 : decode cL_law 1030 = .ok (.iconst 2, 1) := by decide +kernel
theorem dL_law_1031 : decode cL_law 1031 = .ok (.iadd, 1) := by decide +kernel
theorem dL_law_1032 : decode cL_law 1032 = .ok (.iaload, 1) := by decide +kernel
theorem dL_law_1033 : decode cL_law 1033 = .ok (.aload_n 0, 1) := by decide +kernel
theorem dL_law_1034 : decode cL_law 1034 = .ok (.iload_n 3, 1) := by decide +kernel
theorem dL_law_1035 : decode cL_law 1035 = .ok (.iconst 3, 1) := by decide +kernel
theorem dL_law_1036 : decode cL_law 1036 = .ok (.iadd, 1) := by decide +kernel
theorem dL_law_1037 : decode cL_law 1037 = .ok (.iaload, 1) := by decide +kernel
theorem dL_law_1038 : decode cL_law 1038 = .ok (.aload_n 0, 1) := by decide +kernel
theorem dL_law_1039 : decode cL_law 1039 = .ok (.iload_n 3, 1) := by decide +kernel
theorem dL_law_1040 : decode cL_law 1040 = .ok (.iconst 4, 1) := by decide +kernel
theorem dL_law_1041 : decode cL_law 1041 = .ok (.iadd, 1) := by decide +kernel
theorem dL_law_1042 : decode cL_law 1042 = .ok (.iaload, 1) := by decide +kernel
theorem dL_law_1043 : decode cL_law 1043 = .ok (.invokevirtual 138, 3) := by decide +kernel
theorem dL_law_1046 : decode cL_law 1046 = .ok (.pop, 1) := by decide +kernel
theorem dL_law_1047 : decode cL_law 1047 = .ok (.goto 72, 3) := by decide +kernel
theorem dL_law_1050 : decode cL_law 1050 = .ok (.aload_n 1, 1) := by decide +kernel
theorem dL_law_1051 : decode cL_law 1051 = .ok (.aload_n 0, 1) := by decide +kernel
theorem dL_law_1052 : decode cL_law 1052 = .ok (.iload_n 3, 1) := by decide +kernel
theorem dL_law_1053 : decode cL_law 1053 = .ok (.iconst 1, 1) := by decide +kernel
theorem dL_law_1054 : decode cL_law 1054 = .ok (.iadd, 1) := by decide +kernel
theorem dL_law_1055 : decode cL_law 1055 = .ok (.iaload, 1) := by decide +kernel
theorem dL_law_1056 : decode cL_law 1056 = .ok (.invokevirtual 139, 3) := by decide +kernel
theorem dL_law_1059 : decode cL_law 1059 = .ok (.pop, 1) := by decide +kernel
theorem dL_law_1060 : decode cL_law 1060 = .ok (.aload_n 2, 1) := by decide +kernel
theorem dL_law_1061 : decode cL_law 1061 = .ok (.aload_n 0, 1) := by decide +kernel
theorem dL_law_1062 : decode cL_law 1062 = .ok (.iload_n 3, 1) := by decide +kernel
theorem dL_law_1063 : decode cL_law 1063 = .ok (.iconst 1, 1) := by decide +kernel
theorem dL_law_1064 : decode cL_law 1064 = .ok (.iadd, 1) := by decide +kernel
theorem dL_law_1065 : decode cL_law 1065 = .ok (.iaload, 1) := by decide +kernel
theorem dL_law_1066 : decode cL_law 1066 = .ok (.invokevirtual 142, 3) := by decide +kernel
theorem dL_law_1069 : decode cL_law 1069 = .ok (.pop, 1) := by decide +kernel
theorem dL_law_1070 : decode cL_law 1070 = .ok (.goto 49, 3) := by decide +kernel
theorem dL_law_1073 : decode cL_law 1073 = .ok (.aload_n 1, 1) := by decide +kernel
theorem dL_law_1074 : decode cL_law 1074 = .ok (.aload_n 0, 1) := by decide +kernel
theorem dL_law_1075 : decode cL_law 1075 = .ok (.iload_n 3, 1) := by decide +kernel
theorem dL_law_1076 : decode cL_law 1076 = .ok (.iconst 1, 1) := by decide +kernel
theorem dL_law_1077 : decode cL_law 1077 = .ok (.iadd, 1) := by decide +kernel
theorem dL_law_1078 : decode cL_law 1078 = .ok (.iaload, 1) := by decide +kernel
theorem dL_law_1079 : decode cL_law 1079 = .ok (.invokevirtual 143, 3) := by decide +kernel
theorem dL_law_1082 : decode cL_law 1082 = .ok (.pop, 1) := by decide +kernel
theorem dL_law_1083 : decode cL_law 1083 = .ok (.aload_n 2, 1) := by decide +kernel
theorem dL_law_1084 : decode cL_law 1084 = .ok (.aload_n 0, 1) := by decide +kernel
theorem dL_law_1085 : decode cL_law 1085 = .ok (.iload_n 3, 1) := by decide +kernel
theorem dL_law_1086 : decode cL_law 1086 = .ok (.iconst 1, 1) := by decide +kernel
theorem dL_law_1087 : decode cL_law 1087 = .ok (.iadd, 1) := by decide +kernel
theorem dL_law_1088 : decode cL_law 1088 = .ok (.iaload, 1) := by decide +kernel
theorem dL_law_1089 : decode cL_law 1089 = .ok (.invokevirtual 146, 3) := by decide +kernel
theorem dL_law_1092 : decode cL_law 1092 = .ok (.pop, 1) := by decide +kernel
theorem dL_law_1093 : decode cL_law 1093 = .ok (.goto 26, 3) := by decide +kernel
theorem dL_law_1096 : decode cL_law 1096 = .ok (.aload_n 1, 1) := by decide +kernel
theorem dL_law_1097 : decode cL_law 1097 = .ok (.aload_n 0, 1) := by decide +kernel
theorem dL_law_1098 : decode cL_law 1098 = .ok (.iload_n 3, 1) := by decide +kernel
theorem dL_law_1099 : decode cL_law 1099 = .ok (.iconst 1, 1) := by decide +kernel
theorem dL_law_1100 : decode cL_law 1100 = .ok (.iadd, 1) := by decide +kernel
theorem dL_law_1101 : decode cL_law 1101 = .ok (.iaload, 1) := by decide +kernel
theorem dL_law_1102 : decode cL_law 1102 = .ok (.invokevirtual 147, 3) := by decide +kernel
theorem dL_law_1105 : decode cL_law 1105 = .ok (.pop, 1) := by decide +kernel
theorem dL_law_1106 : decode cL_law 1106 = .ok (.aload_n 2, 1) := by decide +kernel
theorem dL_law_1107 : decode cL_law 1107 = .ok (.aload_n 0, 1) := by decide +kernel
theorem dL_law_1108 : decode cL_law 1108 = .ok (.iload_n 3, 1) := by decide +kernel
theorem dL_law_1109 : decode cL_law 1109 = .ok (.iconst 1, 1) := by decide +kernel
theorem dL_law_1110 : decode cL_law 1110 = .ok (.iadd, 1) := by decide +kernel
theorem dL_law_1111 : decode cL_law 1111 = .ok (.iaload, 1) := by decide +kernel
theorem dL_law_1112 : decode cL_law 1112 = .ok (.invokevirtual 150, 3) := by decide +kernel
theorem dL_law_1115 : decode cL_law 1115 = .ok (.pop, 1) := by decide +kernel
theorem dL_law_1116 : decode cL_law 1116 = .ok (.goto 3, 3) := by decide +kernel
set_option maxHeartbeats 4000000 in
set_option maxRecDepth 100000 in
theorem law_case_16 {p : Program} {l : Launch} {e : Env} {s : State} {m : MethodId} {below : List Frame} {meth : Method} {c : Code} {dC : Nat → ClassId} {dI : Nat → Nat → Nat} {b L : Nat} {xs : Nat → Int32} {aK aV : Nat → Nat} (C0 : lw_At p s m meth c b L xs) (hE : gE s) (A : Nat → Prop) (hAe : A = fun q : Nat => s.heap.size ≤ q) (hStr : gS aK aV A s s.heap) (hR : gR aK s) (aX aM k cs sl : Nat) (hk : 6 * k + 6 ≤ L) (hkk : k ≤ 512) (hcs : cs + 11 ≤ 600000) (hsl : sl + 200 ≤ 7302250) (next : ∀ (H : Heap) (locs : List Loc) (ls : Array Slot), LInv (dC, dI) A s b aX aM (k + 1) H locs ls → W p l e room_1 s m #[Value.ref b] below meth c H locs (cs + 11) (sl + 200) (lw_Z below #[Value.ref b] s) (F0 m 18 ls [])) (H : Heap) (locs : List Loc) (ls : Array Slot) (hI : LInv (dC, dI) A s b aX aM k H locs ls) : W p l e room_1 s m #[Value.ref b] below meth c H locs cs sl (lw_Z below #[Value.ref b] s) (F0 m 628 ls []) := by
  obtain ⟨hx, hb, hr, hml, hown, hts0, hX, hbl, hlocks, hgv⟩ := id C0
  have hts : ∀ w ∈ gT, w.before #[Value.ref b] s = true := fun w h => hts0 w (gT_sub h)
  have hA : ∀ q : Nat, s.heap.size ≤ q → A q := by rw [hAe]; exact fun _ h => h
  have hbA : ¬ A b := by rw [hAe]; exact Nat.not_le.mpr hbl
  obtain ⟨tys, κ, B, w, x, ys, ms, hw, kX, kM, hBX, hMX, hRT, hDY, hl⟩ := hI
  refine lv_aload_n hx hb dL_law_628 rfl (lv_at hl 2 rfl) ?_
  refine lv_aload_n hx hb dL_law_629 rfl (lv_at hl 3 rfl) ?_
  refine lv_iload_n hx hb dL_law_630 rfl (lv_at hl 0 rfl) ?_
  refine lv_iconst (v := 1) hx hb dL_law_631 (by decide) ?_
  refine lv_iadd hx hb dL_law_632 ?_
  refine va_sld hx hb hX hbl hbA hw.2.2.2.1 (sc_in (j := 1) (J := 1) (by omega) (by decide) (by decide) (by omega)) dL_law_633 ?_
  refine W.eq (g2 := F0 m 634 ls [.int (xs (6 * k + 1)), .ref aX]) (by rw [sc_ix (J := 1) (by omega) (by decide) (by decide)]) ?_
  refine lv_aload_n hx hb dL_law_634 rfl (lv_at hl 3 rfl) ?_
  refine lv_iload_n hx hb dL_law_635 rfl (lv_at hl 0 rfl) ?_
  refine lv_iconst (v := 2) hx hb dL_law_636 (by decide) ?_
  refine lv_iadd hx hb dL_law_637 ?_
  refine va_sld hx hb hX hbl hbA hw.2.2.2.1 (sc_in (j := 2) (J := 2) (by omega) (by decide) (by decide) (by omega)) dL_law_638 ?_
  refine W.eq (g2 := F0 m 639 ls [.int (xs (6 * k + 2)), .int (xs (6 * k + 1)), .ref aX]) (by rw [sc_ix (J := 2) (by omega) (by decide) (by decide)]) ?_
  refine t_calli (va_runV (As := [.int (xs (6 * k + 1)), .int (xs (6 * k + 2))]) (rest := []) ⟨hx, hb, hml, hown, hts⟩ (t_X11_votes l dC dI tys κ B w hw.2.2.2.2 aX kX (xs (6 * k + 1)) (xs (6 * k + 2)) H.size) (cwV 2 hts (gUV tw_899 tw_900 tw_901 tw_1 tw_902) rfl rfl rfl (by decide +kernel) ⟨(Nat.le_of_ble_eq_true rfl), (Nat.le_of_ble_eq_true rfl)⟩) ⟨cPre.blind, t_recv hw (ci := 11) kX rfl rfl, cPre.use hw.2.1 hw.1 hw.2.2.1 hE⟩ rfl rfl hl.1 rfl (lv_room (Nat.le_of_ble_eq_true rfl)) dL_law_639 ⟨by show _ ≤ 600000; omega, by show _ ≤ 7302250; omega⟩) hw hA (fun _ _ h => h.1) (fun v639 w1 H locs hp hw => ?_)
  obtain ⟨_, hm⟩ := hp
  have hBX := hBX.sm hm (by decide) (by decide)
  have hMX := hMX.sm hm (by decide) (by decide)
  have hRT := hRT.sm hm (by decide) (by decide)
  have hDY := hDY.sm hm (by decide) (by decide)
  refine lv_pop hx hb dL_law_642 rfl ?_
  refine lv_aload_n hx hb dL_law_643 rfl (lv_at hl 1 rfl) ?_
  refine lv_aload_n hx hb dL_law_644 rfl (lv_at hl 3 rfl) ?_
  refine lv_iload_n hx hb dL_law_645 rfl (lv_at hl 0 rfl) ?_
  refine lv_iconst (v := 1) hx hb dL_law_646 (by decide) ?_
  refine lv_iadd hx hb dL_law_647 ?_
  refine va_sld hx hb hX hbl hbA hw.2.2.2.1 (sc_in (j := 1) (J := 1) (by omega) (by decide) (by decide) (by omega)) dL_law_648 ?_
  refine W.eq (g2 := F0 m 649 ls [.int (xs (6 * k + 1)), .ref aM]) (by rw [sc_ix (J := 1) (by omega) (by decide) (by decide)]) ?_
  refine lv_aload_n hx hb dL_law_649 rfl (lv_at hl 3 rfl) ?_
  refine lv_iload_n hx hb dL_law_650 rfl (lv_at hl 0 rfl) ?_
  refine lv_iconst (v := 2) hx hb dL_law_651 (by decide) ?_
  refine lv_iadd hx hb dL_law_652 ?_
  refine va_sld hx hb hX hbl hbA hw.2.2.2.1 (sc_in (j := 2) (J := 2) (by omega) (by decide) (by decide) (by omega)) dL_law_653 ?_
  refine W.eq (g2 := F0 m 654 ls [.int (xs (6 * k + 2)), .int (xs (6 * k + 1)), .ref aM]) (by rw [sc_ix (J := 2) (by omega) (by decide) (by decide)]) ?_
  refine t_calli (va_runV (As := [.int (xs (6 * k + 1)), .int (xs (6 * k + 2))]) (rest := []) ⟨hx, hb, hml, hown, hts⟩ (t_X12_votes l dC dI tys κ B w1 hw.2.2.2.2 aM kM (xs (6 * k + 1)) (xs (6 * k + 2)) hRT H.size) (cwV 2 hts (gUV tw_1606 tw_1607 tw_1608 tw_13 tw_1609) rfl rfl rfl (by decide +kernel) ⟨(Nat.le_of_ble_eq_true rfl), (Nat.le_of_ble_eq_true rfl)⟩) ⟨cPre.blind, t_recv hw (ci := 12) kM rfl rfl, cPre.use hw.2.1 hw.1 hw.2.2.1 hE⟩ rfl rfl hl.1 rfl (lv_room (Nat.le_of_ble_eq_true rfl)) dL_law_654 ⟨by show _ ≤ 600000; omega, by show _ ≤ 7302250; omega⟩) hw hA (fun _ _ h => h.1) (fun v654 w2 H locs hp hw => ?_)
  obtain ⟨_, hm⟩ := hp
  have hBX := hBX.sm hm (by decide) (by decide)
  have hMX := hMX.sm hm (by decide) (by decide)
  have hRT := hRT.sm hm (by decide) (by decide)
  have hDY := hDY.sm hm (by decide) (by decide)
  refine lv_pop hx hb dL_law_657 rfl ?_
  refine lv_goto (tgt := 1119) hx hb dL_law_658 (by decide) ?_
  exact law_next C0 A hAe aX aM k cs sl hk hkk next H locs ls (by omega) (by omega) ⟨tys, κ, B, w2, x, ys, ms, hw, kX, kM, hBX, hMX, hRT, hDY, hl⟩
set_option maxHeartbeats 4000000 in
set_option maxRecDepth 100000 in
theorem law_case_17 {p : Program} {l : Launch} {e : Env} {s : State} {m : MethodId} {below : List Frame} {meth : Method} {c : Code} {dC : Nat → ClassId} {dI : Nat → Nat → Nat} {b L : Nat} {xs : Nat → Int32} {aK aV : Nat → Nat} (C0 : lw_At p s m meth c b L xs) (hE : gE s) (A : Nat → Prop) (hAe : A = fun q : Nat => s.heap.size ≤ q) (hStr : gS aK aV A s s.heap) (hR : gR aK s) (aX aM k cs sl : Nat) (hk : 6 * k + 6 ≤ L) (hkk : k ≤ 512) (hcs : cs + 11 ≤ 600000) (hsl : sl + 200 ≤ 7302250) (next : ∀ (H : Heap) (locs : List Loc) (ls : Array Slot), LInv (dC, dI) A s b aX aM (k + 1) H locs ls → W p l e room_1 s m #[Value.ref b] below meth c H locs (cs + 11) (sl + 200) (lw_Z below #[Value.ref b] s) (F0 m 18 ls [])) (H : Heap) (locs : List Loc) (ls : Array Slot) (hI : LInv (dC, dI) A s b aX aM k H locs ls) : W p l e room_1 s m #[Value.ref b] below meth c H locs cs sl (lw_Z below #[Value.ref b] s) (F0 m 661 ls []) := by
  obtain ⟨hx, hb, hr, hml, hown, hts0, hX, hbl, hlocks, hgv⟩ := id C0
  have hts : ∀ w ∈ gT, w.before #[Value.ref b] s = true := fun w h => hts0 w (gT_sub h)
  have hA : ∀ q : Nat, s.heap.size ≤ q → A q := by rw [hAe]; exact fun _ h => h
  have hbA : ¬ A b := by rw [hAe]; exact Nat.not_le.mpr hbl
  obtain ⟨tys, κ, B, w, x, ys, ms, hw, kX, kM, hBX, hMX, hRT, hDY, hl⟩ := hI
  refine lv_aload_n hx hb dL_law_661 rfl (lv_at hl 2 rfl) ?_
  refine lv_aload_n hx hb dL_law_662 rfl (lv_at hl 3 rfl) ?_
  refine lv_iload_n hx hb dL_law_663 rfl (lv_at hl 0 rfl) ?_
  refine lv_iconst (v := 1) hx hb dL_law_664 (by decide) ?_
  refine lv_iadd hx hb dL_law_665 ?_
  refine va_sld hx hb hX hbl hbA hw.2.2.2.1 (sc_in (j := 1) (J := 1) (by omega) (by decide) (by decide) (by omega)) dL_law_666 ?_
  refine W.eq (g2 := F0 m 667 ls [.int (xs (6 * k + 1)), .ref aX]) (by rw [sc_ix (J := 1) (by omega) (by decide) (by decide)]) ?_
  refine t_calli (va_runV (As := [.int (xs (6 * k + 1))]) (rest := []) ⟨hx, hb, hml, hown, hts⟩ (t_X11_method l dC dI tys κ B w hw.2.2.2.2 aX kX (xs (6 * k + 1)) H.size) (cwV 1 hts (gUV tw_904 tw_905 tw_906 tw_1 tw_907) rfl rfl rfl (by decide +kernel) ⟨(Nat.le_of_ble_eq_true rfl), (Nat.le_of_ble_eq_true rfl)⟩) ⟨cPre.blind, t_recv hw (ci := 11) kX rfl rfl, cPre.use hw.2.1 hw.1 hw.2.2.1 hE⟩ rfl rfl hl.1 rfl (lv_room (Nat.le_of_ble_eq_true rfl)) dL_law_667 ⟨by show _ ≤ 600000; omega, by show _ ≤ 7302250; omega⟩) hw hA (fun _ _ h => h.2.2.1) (fun v667 w1 H locs hp hw => ?_)
  obtain ⟨_, _, _, hm⟩ := hp
  have hBX := hBX.sm hm (by decide) (by decide)
  have hMX := hMX.sm hm (by decide) (by decide)
  have hRT := hRT.sm hm (by decide) (by decide)
  have hDY := hDY.sm hm (by decide) (by decide)
  refine lv_pop hx hb dL_law_670 rfl ?_
  refine lv_aload_n hx hb dL_law_671 rfl (lv_at hl 1 rfl) ?_
  refine lv_aload_n hx hb dL_law_672 rfl (lv_at hl 3 rfl) ?_
  refine lv_iload_n hx hb dL_law_673 rfl (lv_at hl 0 rfl) ?_
  refine lv_iconst (v := 1) hx hb dL_law_674 (by decide) ?_
  refine lv_iadd hx hb dL_law_675 ?_
  refine va_sld hx hb hX hbl hbA hw.2.2.2.1 (sc_in (j := 1) (J := 1) (by omega) (by decide) (by decide) (by omega)) dL_law_676 ?_
  refine W.eq (g2 := F0 m 677 ls [.int (xs (6 * k + 1)), .ref aM]) (by rw [sc_ix (J := 1) (by omega) (by decide) (by decide)]) ?_
  refine t_calli (va_runV (As := [.int (xs (6 * k + 1))]) (rest := []) ⟨hx, hb, hml, hown, hts⟩ (t_X12_method l dC dI tys κ B w1 hw.2.2.2.2 aM kM (xs (6 * k + 1)) hRT H.size) (cwV 1 hts (gUV tw_1610 tw_1611 tw_1612 tw_13 tw_1613) rfl rfl rfl (by decide +kernel) ⟨(Nat.le_of_ble_eq_true rfl), (Nat.le_of_ble_eq_true rfl)⟩) ⟨cPre.blind, t_recv hw (ci := 12) kM rfl rfl, cPre.use hw.2.1 hw.1 hw.2.2.1 hE⟩ rfl rfl hl.1 rfl (lv_room (Nat.le_of_ble_eq_true rfl)) dL_law_677 ⟨by show _ ≤ 600000; omega, by show _ ≤ 7302250; omega⟩) hw hA (fun _ _ h => h.2.2.1) (fun v677 w2 H locs hp hw => ?_)
  obtain ⟨_, _, _, hm⟩ := hp
  have hBX := hBX.sm hm (by decide) (by decide)
  have hMX := hMX.sm hm (by decide) (by decide)
  have hRT := hRT.sm hm (by decide) (by decide)
  have hDY := hDY.sm hm (by decide) (by decide)
  refine lv_pop hx hb dL_law_680 rfl ?_
  refine lv_goto (tgt := 1119) hx hb dL_law_681 (by decide) ?_
  exact law_next C0 A hAe aX aM k cs sl hk hkk next H locs ls (by omega) (by omega) ⟨tys, κ, B, w2, x, ys, ms, hw, kX, kM, hBX, hMX, hRT, hDY, hl⟩
set_option maxHeartbeats 4000000 in
set_option maxRecDepth 100000 in
theorem law_case_18 {p : Program} {l : Launch} {e : Env} {s : State} {m : MethodId} {below : List Frame} {meth : Method} {c : Code} {dC : Nat → ClassId} {dI : Nat → Nat → Nat} {b L : Nat} {xs : Nat → Int32} {aK aV : Nat → Nat} (C0 : lw_At p s m meth c b L xs) (hE : gE s) (A : Nat → Prop) (hAe : A = fun q : Nat => s.heap.size ≤ q) (hStr : gS aK aV A s s.heap) (hR : gR aK s) (aX aM k cs sl : Nat) (hk : 6 * k + 6 ≤ L) (hkk : k ≤ 512) (hcs : cs + 11 ≤ 600000) (hsl : sl + 200 ≤ 7302250) (next : ∀ (H : Heap) (locs : List Loc) (ls : Array Slot), LInv (dC, dI) A s b aX aM (k + 1) H locs ls → W p l e room_1 s m #[Value.ref b] below meth c H locs (cs + 11) (sl + 200) (lw_Z below #[Value.ref b] s) (F0 m 18 ls [])) (H : Heap) (locs : List Loc) (ls : Array Slot) (hI : LInv (dC, dI) A s b aX aM k H locs ls) : W p l e room_1 s m #[Value.ref b] below meth c H locs cs sl (lw_Z below #[Value.ref b] s) (F0 m 684 ls []) := by
  obtain ⟨hx, hb, hr, hml, hown, hts0, hX, hbl, hlocks, hgv⟩ := id C0
  have hts : ∀ w ∈ gT, w.before #[Value.ref b] s = true := fun w h => hts0 w (gT_sub h)
  have hA : ∀ q : Nat, s.heap.size ≤ q → A q := by rw [hAe]; exact fun _ h => h
  have hbA : ¬ A b := by rw [hAe]; exact Nat.not_le.mpr hbl
  obtain ⟨tys, κ, B, w, x, ys, ms, hw, kX, kM, hBX, hMX, hRT, hDY, hl⟩ := hI
  refine lv_aload_n hx hb dL_law_684 rfl (lv_at hl 2 rfl) ?_
  refine lv_aload_n hx hb dL_law_685 rfl (lv_at hl 3 rfl) ?_
  refine lv_iload_n hx hb dL_law_686 rfl (lv_at hl 0 rfl) ?_
  refine lv_iconst (v := 1) hx hb dL_law_687 (by decide) ?_
  refine lv_iadd hx hb dL_law_688 ?_
  refine va_sld hx hb hX hbl hbA hw.2.2.2.1 (sc_in (j := 1) (J := 1) (by omega) (by decide) (by decide) (by omega)) dL_law_689 ?_
  refine W.eq (g2 := F0 m 690 ls [.int (xs (6 * k + 1)), .ref aX]) (by rw [sc_ix (J := 1) (by omega) (by decide) (by decide)]) ?_
  refine t_calli (va_runV (As := [.int (xs (6 * k + 1))]) (rest := []) ⟨hx, hb, hml, hown, hts⟩ (t_X11_least l dC dI tys κ B w hw.2.2.2.2 aX kX (xs (6 * k + 1)) H.size) (cwV 1 hts (gUV tw_937 tw_938 tw_939 tw_1 tw_940) rfl rfl rfl (by decide +kernel) ⟨(Nat.le_of_ble_eq_true rfl), (Nat.le_of_ble_eq_true rfl)⟩) ⟨cPre.blind, t_recv hw (ci := 11) kX rfl rfl, cPre.use hw.2.1 hw.1 hw.2.2.1 hE⟩ rfl rfl hl.1 rfl (lv_room (Nat.le_of_ble_eq_true rfl)) dL_law_690 ⟨by show _ ≤ 600000; omega, by show _ ≤ 7302250; omega⟩) hw hA (fun _ _ h => h.2.2.1) (fun v690 w1 H locs hp hw => ?_)
  obtain ⟨_, _, _, hm⟩ := hp
  have hBX := hBX.sm hm (by decide) (by decide)
  have hMX := hMX.sm hm (by decide) (by decide)
  have hRT := hRT.sm hm (by decide) (by decide)
  have hDY := hDY.sm hm (by decide) (by decide)
  refine lv_pop hx hb dL_law_693 rfl ?_
  refine lv_aload_n hx hb dL_law_694 rfl (lv_at hl 1 rfl) ?_
  refine lv_aload_n hx hb dL_law_695 rfl (lv_at hl 3 rfl) ?_
  refine lv_iload_n hx hb dL_law_696 rfl (lv_at hl 0 rfl) ?_
  refine lv_iconst (v := 1) hx hb dL_law_697 (by decide) ?_
  refine lv_iadd hx hb dL_law_698 ?_
  refine va_sld hx hb hX hbl hbA hw.2.2.2.1 (sc_in (j := 1) (J := 1) (by omega) (by decide) (by decide) (by omega)) dL_law_699 ?_
  refine W.eq (g2 := F0 m 700 ls [.int (xs (6 * k + 1)), .ref aM]) (by rw [sc_ix (J := 1) (by omega) (by decide) (by decide)]) ?_
  obtain ⟨sA, dd, y1, y2, y3, y4, y5⟩ := hDY
  refine t_calli (va_runV (As := [.int (xs (6 * k + 1))]) (rest := []) ⟨hx, hb, hml, hown, hts⟩ (t_X12_least l dC dI tys κ B w1 hw.2.2.2.2 aM kM (xs (6 * k + 1)) sA y2 y1 dd y4 y5 y3 hRT H.size) (cwV 1 hts (gUV tw_1648 tw_1649 tw_1650 tw_13 tw_1651) rfl rfl rfl (by decide +kernel) ⟨(Nat.le_of_ble_eq_true rfl), (Nat.le_of_ble_eq_true rfl)⟩) ⟨cPre.blind, t_recv hw (ci := 12) kM rfl rfl, cPre.use hw.2.1 hw.1 hw.2.2.1 hE⟩ rfl rfl hl.1 rfl (lv_room (Nat.le_of_ble_eq_true rfl)) dL_law_700 ⟨by show _ ≤ 600000; omega, by show _ ≤ 7302250; omega⟩) hw hA (fun _ _ h => h.2.2.1) (fun v700 w2 H locs hp hw => ?_)
  obtain ⟨_, _, _, hm, hxk⟩ := hp
  have hBX := hBX.sm hm (by decide) (by decide)
  have hMX := hMX.sm hm (by decide) (by decide)
  have hRT := hRT.sm hm (by decide) (by decide)
  have hDY : DY κ w2 aM := ⟨sA, dd, hm.1 _ _ _ _ y1 (by decide), y2, hxk, y4, y5⟩
  refine lv_pop hx hb dL_law_703 rfl ?_
  refine lv_goto (tgt := 1119) hx hb dL_law_704 (by decide) ?_
  exact law_next C0 A hAe aX aM k cs sl hk hkk next H locs ls (by omega) (by omega) ⟨tys, κ, B, w2, x, ys, ms, hw, kX, kM, hBX, hMX, hRT, hDY, hl⟩
set_option maxHeartbeats 4000000 in
set_option maxRecDepth 100000 in
theorem law_case_19 {p : Program} {l : Launch} {e : Env} {s : State} {m : MethodId} {below : List Frame} {meth : Method} {c : Code} {dC : Nat → ClassId} {dI : Nat → Nat → Nat} {b L : Nat} {xs : Nat → Int32} {aK aV : Nat → Nat} (C0 : lw_At p s m meth c b L xs) (hE : gE s) (A : Nat → Prop) (hAe : A = fun q : Nat => s.heap.size ≤ q) (hStr : gS aK aV A s s.heap) (hR : gR aK s) (aX aM k cs sl : Nat) (hk : 6 * k + 6 ≤ L) (hkk : k ≤ 512) (hcs : cs + 11 ≤ 600000) (hsl : sl + 200 ≤ 7302250) (next : ∀ (H : Heap) (locs : List Loc) (ls : Array Slot), LInv (dC, dI) A s b aX aM (k + 1) H locs ls → W p l e room_1 s m #[Value.ref b] below meth c H locs (cs + 11) (sl + 200) (lw_Z below #[Value.ref b] s) (F0 m 18 ls [])) (H : Heap) (locs : List Loc) (ls : Array Slot) (hI : LInv (dC, dI) A s b aX aM k H locs ls) : W p l e room_1 s m #[Value.ref b] below meth c H locs cs sl (lw_Z below #[Value.ref b] s) (F0 m 707 ls []) := by
  obtain ⟨hx, hb, hr, hml, hown, hts0, hX, hbl, hlocks, hgv⟩ := id C0
  have hts : ∀ w ∈ gT, w.before #[Value.ref b] s = true := fun w h => hts0 w (gT_sub h)
  have hA : ∀ q : Nat, s.heap.size ≤ q → A q := by rw [hAe]; exact fun _ h => h
  have hbA : ¬ A b := by rw [hAe]; exact Nat.not_le.mpr hbl
  obtain ⟨tys, κ, B, w, x, ys, ms, hw, kX, kM, hBX, hMX, hRT, hDY, hl⟩ := hI
  refine lv_aload_n hx hb dL_law_707 rfl (lv_at hl 2 rfl) ?_
  refine lv_aload_n hx hb dL_law_708 rfl (lv_at hl 3 rfl) ?_
  refine lv_iload_n hx hb dL_law_709 rfl (lv_at hl 0 rfl) ?_
  refine lv_iconst (v := 1) hx hb dL_law_710 (by decide) ?_
  refine lv_iadd hx hb dL_law_711 ?_
  refine va_sld hx hb hX hbl hbA hw.2.2.2.1 (sc_in (j := 1) (J := 1) (by omega) (by decide) (by decide) (by omega)) dL_law_712 ?_
  refine W.eq (g2 := F0 m 713 ls [.int (xs (6 * k + 1)), .ref aX]) (by rw [sc_ix (J := 1) (by omega) (by decide) (by decide)]) ?_
  refine lv_aload_n hx hb dL_law_713 rfl (lv_at hl 3 rfl) ?_
  refine lv_iload_n hx hb dL_law_714 rfl (lv_at hl 0 rfl) ?_
  refine lv_iconst (v := 2) hx hb dL_law_715 (by decide) ?_
  refine lv_iadd hx hb dL_law_716 ?_
  refine va_sld hx hb hX hbl hbA hw.2.2.2.1 (sc_in (j := 2) (J := 2) (by omega) (by decide) (by decide) (by omega)) dL_law_717 ?_
  refine W.eq (g2 := F0 m 718 ls [.int (xs (6 * k + 2)), .int (xs (6 * k + 1)), .ref aX]) (by rw [sc_ix (J := 2) (by omega) (by decide) (by decide)]) ?_
  refine t_calli (va_runV (As := [.int (xs (6 * k + 1)), .int (xs (6 * k + 2))]) (rest := []) ⟨hx, hb, hml, hown, hts⟩ (t_X11_winOver l dC dI tys κ B w hw.2.2.2.2 aX kX (xs (6 * k + 1)) (xs (6 * k + 2)) H.size) (cwV 2 hts (gUV tw_941 tw_942 tw_943 tw_1 tw_944) rfl rfl rfl (by decide +kernel) ⟨(Nat.le_of_ble_eq_true rfl), (Nat.le_of_ble_eq_true rfl)⟩) ⟨cPre.blind, t_recv hw (ci := 11) kX rfl rfl, cPre.use hw.2.1 hw.1 hw.2.2.1 hE⟩ rfl rfl hl.1 rfl (lv_room (Nat.le_of_ble_eq_true rfl)) dL_law_718 ⟨by show _ ≤ 600000; omega, by show _ ≤ 7302250; omega⟩) hw hA (fun _ _ h => h.2.2.1) (fun v718 w1 H locs hp hw => ?_)
  obtain ⟨_, _, _, hm⟩ := hp
  have hBX := hBX.sm hm (by decide) (by decide)
  have hMX := hMX.sm hm (by decide) (by decide)
  have hRT := hRT.sm hm (by decide) (by decide)
  have hDY := hDY.sm hm (by decide) (by decide)
  refine lv_pop hx hb dL_law_721 rfl ?_
  refine lv_aload_n hx hb dL_law_722 rfl (lv_at hl 1 rfl) ?_
  refine lv_aload_n hx hb dL_law_723 rfl (lv_at hl 3 rfl) ?_
  refine lv_iload_n hx hb dL_law_724 rfl (lv_at hl 0 rfl) ?_
  refine lv_iconst (v := 1) hx hb dL_law_725 (by decide) ?_
  refine lv_iadd hx hb dL_law_726 ?_
  refine va_sld hx hb hX hbl hbA hw.2.2.2.1 (sc_in (j := 1) (J := 1) (by omega) (by decide) (by decide) (by omega)) dL_law_727 ?_
  refine W.eq (g2 := F0 m 728 ls [.int (xs (6 * k + 1)), .ref aM]) (by rw [sc_ix (J := 1) (by omega) (by decide) (by decide)]) ?_
  refine lv_aload_n hx hb dL_law_728 rfl (lv_at hl 3 rfl) ?_
  refine lv_iload_n hx hb dL_law_729 rfl (lv_at hl 0 rfl) ?_
  refine lv_iconst (v := 2) hx hb dL_law_730 (by decide) ?_
  refine lv_iadd hx hb dL_law_731 ?_
  refine va_sld hx hb hX hbl hbA hw.2.2.2.1 (sc_in (j := 2) (J := 2) (by omega) (by decide) (by decide) (by omega)) dL_law_732 ?_
  refine W.eq (g2 := F0 m 733 ls [.int (xs (6 * k + 2)), .int (xs (6 * k + 1)), .ref aM]) (by rw [sc_ix (J := 2) (by omega) (by decide) (by decide)]) ?_
  refine t_calli (va_runV (As := [.int (xs (6 * k + 1)), .int (xs (6 * k + 2))]) (rest := []) ⟨hx, hb, hml, hown, hts⟩ (t_X12_winOver l dC dI tys κ B w1 hw.2.2.2.2 aM kM (xs (6 * k + 1)) (xs (6 * k + 2)) hRT H.size) (cwV 2 hts (gUV tw_1652 tw_1653 tw_1654 tw_13 tw_1655) rfl rfl rfl (by decide +kernel) ⟨(Nat.le_of_ble_eq_true rfl), (Nat.le_of_ble_eq_true rfl)⟩) ⟨cPre.blind, t_recv hw (ci := 12) kM rfl rfl, cPre.use hw.2.1 hw.1 hw.2.2.1 hE⟩ rfl rfl hl.1 rfl (lv_room (Nat.le_of_ble_eq_true rfl)) dL_law_733 ⟨by show _ ≤ 600000; omega, by show _ ≤ 7302250; omega⟩) hw hA (fun _ _ h => h.1) (fun v733 w2 H locs hp hw => ?_)
  obtain ⟨_, hm⟩ := hp
  have hBX := hBX.sm hm (by decide) (by decide)
  have hMX := hMX.sm hm (by decide) (by decide)
  have hRT := hRT.sm hm (by decide) (by decide)
  have hDY := hDY.sm hm (by decide) (by decide)
  refine lv_pop hx hb dL_law_736 rfl ?_
  refine lv_goto (tgt := 1119) hx hb dL_law_737 (by decide) ?_
  exact law_next C0 A hAe aX aM k cs sl hk hkk next H locs ls (by omega) (by omega) ⟨tys, κ, B, w2, x, ys, ms, hw, kX, kM, hBX, hMX, hRT, hDY, hl⟩
set_option maxHeartbeats 4000000 in
set_option maxRecDepth 100000 in
theorem law_case_20 {p : Program} {l : Launch} {e : Env} {s : State} {m : MethodId} {below : List Frame} {meth : Method} {c : Code} {dC : Nat → ClassId} {dI : Nat → Nat → Nat} {b L : Nat} {xs : Nat → Int32} {aK aV : Nat → Nat} (C0 : lw_At p s m meth c b L xs) (hE : gE s) (A : Nat → Prop) (hAe : A = fun q : Nat => s.heap.size ≤ q) (hStr : gS aK aV A s s.heap) (hR : gR aK s) (aX aM k cs sl : Nat) (hk : 6 * k + 6 ≤ L) (hkk : k ≤ 512) (hcs : cs + 11 ≤ 600000) (hsl : sl + 200 ≤ 7302250) (next : ∀ (H : Heap) (locs : List Loc) (ls : Array Slot), LInv (dC, dI) A s b aX aM (k + 1) H locs ls → W p l e room_1 s m #[Value.ref b] below meth c H locs (cs + 11) (sl + 200) (lw_Z below #[Value.ref b] s) (F0 m 18 ls [])) (H : Heap) (locs : List Loc) (ls : Array Slot) (hI : LInv (dC, dI) A s b aX aM k H locs ls) : W p l e room_1 s m #[Value.ref b] below meth c H locs cs sl (lw_Z below #[Value.ref b] s) (F0 m 740 ls []) := by
  obtain ⟨hx, hb, hr, hml, hown, hts0, hX, hbl, hlocks, hgv⟩ := id C0
  have hts : ∀ w ∈ gT, w.before #[Value.ref b] s = true := fun w h => hts0 w (gT_sub h)
  have hA : ∀ q : Nat, s.heap.size ≤ q → A q := by rw [hAe]; exact fun _ h => h
  have hbA : ¬ A b := by rw [hAe]; exact Nat.not_le.mpr hbl
  obtain ⟨tys, κ, B, w, x, ys, ms, hw, kX, kM, hBX, hMX, hRT, hDY, hl⟩ := hI
  refine lv_aload_n hx hb dL_law_740 rfl (lv_at hl 2 rfl) ?_
  refine lv_aload_n hx hb dL_law_741 rfl (lv_at hl 3 rfl) ?_
  refine lv_iload_n hx hb dL_law_742 rfl (lv_at hl 0 rfl) ?_
  refine lv_iconst (v := 1) hx hb dL_law_743 (by decide) ?_
  refine lv_iadd hx hb dL_law_744 ?_
  refine va_sld hx hb hX hbl hbA hw.2.2.2.1 (sc_in (j := 1) (J := 1) (by omega) (by decide) (by decide) (by omega)) dL_law_745 ?_
  refine W.eq (g2 := F0 m 746 ls [.int (xs (6 * k + 1)), .ref aX]) (by rw [sc_ix (J := 1) (by omega) (by decide) (by decide)]) ?_
  refine lv_aload_n hx hb dL_law_746 rfl (lv_at hl 3 rfl) ?_
  refine lv_iload_n hx hb dL_law_747 rfl (lv_at hl 0 rfl) ?_
  refine lv_iconst (v := 2) hx hb dL_law_748 (by decide) ?_
  refine lv_iadd hx hb dL_law_749 ?_
  refine va_sld hx hb hX hbl hbA hw.2.2.2.1 (sc_in (j := 2) (J := 2) (by omega) (by decide) (by decide) (by omega)) dL_law_750 ?_
  refine W.eq (g2 := F0 m 751 ls [.int (xs (6 * k + 2)), .int (xs (6 * k + 1)), .ref aX]) (by rw [sc_ix (J := 2) (by omega) (by decide) (by decide)]) ?_
  refine lv_aload_n hx hb dL_law_751 rfl (lv_at hl 3 rfl) ?_
  refine lv_iload_n hx hb dL_law_752 rfl (lv_at hl 0 rfl) ?_
  refine lv_iconst (v := 3) hx hb dL_law_753 (by decide) ?_
  refine lv_iadd hx hb dL_law_754 ?_
  refine va_sld hx hb hX hbl hbA hw.2.2.2.1 (sc_in (j := 3) (J := 3) (by omega) (by decide) (by decide) (by omega)) dL_law_755 ?_
  refine W.eq (g2 := F0 m 756 ls [.int (xs (6 * k + 3)), .int (xs (6 * k + 2)), .int (xs (6 * k + 1)), .ref aX]) (by rw [sc_ix (J := 3) (by omega) (by decide) (by decide)]) ?_
  refine t_calli (va_runV (As := [.int (xs (6 * k + 1)), .int (xs (6 * k + 2)), .int (xs (6 * k + 3))]) (rest := []) ⟨hx, hb, hml, hown, hts⟩ (t_X11_rests l dC dI tys κ B w hw.2.2.2.2 aX kX (xs (6 * k + 1)) (xs (6 * k + 2)) (xs (6 * k + 3)) H.size) (cwV 3 hts (gUV tw_950 tw_951 tw_952 tw_1 tw_953) rfl rfl rfl (by decide +kernel) ⟨(Nat.le_of_ble_eq_true rfl), (Nat.le_of_ble_eq_true rfl)⟩) ⟨cPre.blind, t_recv hw (ci := 11) kX rfl rfl, cPre.use hw.2.1 hw.1 hw.2.2.1 hE⟩ rfl rfl hl.1 rfl (lv_room (Nat.le_of_ble_eq_true rfl)) dL_law_756 ⟨by show _ ≤ 600000; omega, by show _ ≤ 7302250; omega⟩) hw hA (fun _ _ h => h.1) (fun v756 w1 H locs hp hw => ?_)
  obtain ⟨_, hm⟩ := hp
  have hBX := hBX.sm hm (by decide) (by decide)
  have hMX := hMX.sm hm (by decide) (by decide)
  have hRT := hRT.sm hm (by decide) (by decide)
  have hDY := hDY.sm hm (by decide) (by decide)
  refine lv_pop hx hb dL_law_759 rfl ?_
  refine lv_aload_n hx hb dL_law_760 rfl (lv_at hl 1 rfl) ?_
  refine lv_aload_n hx hb dL_law_761 rfl (lv_at hl 3 rfl) ?_
  refine lv_iload_n hx hb dL_law_762 rfl (lv_at hl 0 rfl) ?_
  refine lv_iconst (v := 1) hx hb dL_law_763 (by decide) ?_
  refine lv_iadd hx hb dL_law_764 ?_
  refine va_sld hx hb hX hbl hbA hw.2.2.2.1 (sc_in (j := 1) (J := 1) (by omega) (by decide) (by decide) (by omega)) dL_law_765 ?_
  refine W.eq (g2 := F0 m 766 ls [.int (xs (6 * k + 1)), .ref aM]) (by rw [sc_ix (J := 1) (by omega) (by decide) (by decide)]) ?_
  refine lv_aload_n hx hb dL_law_766 rfl (lv_at hl 3 rfl) ?_
  refine lv_iload_n hx hb dL_law_767 rfl (lv_at hl 0 rfl) ?_
  refine lv_iconst (v := 2) hx hb dL_law_768 (by decide) ?_
  refine lv_iadd hx hb dL_law_769 ?_
  refine va_sld hx hb hX hbl hbA hw.2.2.2.1 (sc_in (j := 2) (J := 2) (by omega) (by decide) (by decide) (by omega)) dL_law_770 ?_
  refine W.eq (g2 := F0 m 771 ls [.int (xs (6 * k + 2)), .int (xs (6 * k + 1)), .ref aM]) (by rw [sc_ix (J := 2) (by omega) (by decide) (by decide)]) ?_
  refine lv_aload_n hx hb dL_law_771 rfl (lv_at hl 3 rfl) ?_
  refine lv_iload_n hx hb dL_law_772 rfl (lv_at hl 0 rfl) ?_
  refine lv_iconst (v := 3) hx hb dL_law_773 (by decide) ?_
  refine lv_iadd hx hb dL_law_774 ?_
  refine va_sld hx hb hX hbl hbA hw.2.2.2.1 (sc_in (j := 3) (J := 3) (by omega) (by decide) (by decide) (by omega)) dL_law_775 ?_
  refine W.eq (g2 := F0 m 776 ls [.int (xs (6 * k + 3)), .int (xs (6 * k + 2)), .int (xs (6 * k + 1)), .ref aM]) (by rw [sc_ix (J := 3) (by omega) (by decide) (by decide)]) ?_
  obtain ⟨sA, dd, y1, y2, y3, y4, y5⟩ := hDY
  refine t_calli (va_runV (As := [.int (xs (6 * k + 1)), .int (xs (6 * k + 2)), .int (xs (6 * k + 3))]) (rest := []) ⟨hx, hb, hml, hown, hts⟩ (t_X12_rests l dC dI tys κ B w1 hw.2.2.2.2 aM kM (xs (6 * k + 1)) (xs (6 * k + 2)) (xs (6 * k + 3)) sA y2 y1 dd y4 y5 y3 hRT H.size) (cwV 3 hts (gUV tw_1660 tw_1661 tw_1662 tw_13 tw_1663) rfl rfl rfl (by decide +kernel) ⟨(Nat.le_of_ble_eq_true rfl), (Nat.le_of_ble_eq_true rfl)⟩) ⟨cPre.blind, t_recv hw (ci := 12) kM rfl rfl, cPre.use hw.2.1 hw.1 hw.2.2.1 hE⟩ rfl rfl hl.1 rfl (lv_room (Nat.le_of_ble_eq_true rfl)) dL_law_776 ⟨by show _ ≤ 600000; omega, by show _ ≤ 7302250; omega⟩) hw hA (fun _ _ h => h.1) (fun v776 w2 H locs hp hw => ?_)
  obtain ⟨_, hm, ⟨d1, l1, h1, e1⟩⟩ := hp
  have hBX := hBX.sm hm (by decide) (by decide)
  have hMX := hMX.sm hm (by decide) (by decide)
  have hRT := hRT.sm hm (by decide) (by decide)
  have hDY : DY κ w2 aM := ⟨sA, d1, hm.1 _ _ _ _ y1 (by decide), y2, e1, l1, h1⟩
  refine lv_pop hx hb dL_law_779 rfl ?_
  refine lv_goto (tgt := 1119) hx hb dL_law_780 (by decide) ?_
  exact law_next C0 A hAe aX aM k cs sl hk hkk next H locs ls (by omega) (by omega) ⟨tys, κ, B, w2, x, ys, ms, hw, kX, kM, hBX, hMX, hRT, hDY, hl⟩
set_option maxHeartbeats 4000000 in
set_option maxRecDepth 100000 in
theorem law_case_21 {p : Program} {l : Launch} {e : Env} {s : State} {m : MethodId} {below : List Frame} {meth : Method} {c : Code} {dC : Nat → ClassId} {dI : Nat → Nat → Nat} {b L : Nat} {xs : Nat → Int32} {aK aV : Nat → Nat} (C0 : lw_At p s m meth c b L xs) (hE : gE s) (A : Nat → Prop) (hAe : A = fun q : Nat => s.heap.size ≤ q) (hStr : gS aK aV A s s.heap) (hR : gR aK s) (aX aM k cs sl : Nat) (hk : 6 * k + 6 ≤ L) (hkk : k ≤ 512) (hcs : cs + 11 ≤ 600000) (hsl : sl + 200 ≤ 7302250) (next : ∀ (H : Heap) (locs : List Loc) (ls : Array Slot), LInv (dC, dI) A s b aX aM (k + 1) H locs ls → W p l e room_1 s m #[Value.ref b] below meth c H locs (cs + 11) (sl + 200) (lw_Z below #[Value.ref b] s) (F0 m 18 ls [])) (H : Heap) (locs : List Loc) (ls : Array Slot) (hI : LInv (dC, dI) A s b aX aM k H locs ls) : W p l e room_1 s m #[Value.ref b] below meth c H locs cs sl (lw_Z below #[Value.ref b] s) (F0 m 783 ls []) := by
  obtain ⟨hx, hb, hr, hml, hown, hts0, hX, hbl, hlocks, hgv⟩ := id C0
  have hts : ∀ w ∈ gT, w.before #[Value.ref b] s = true := fun w h => hts0 w (gT_sub h)
  have hA : ∀ q : Nat, s.heap.size ≤ q → A q := by rw [hAe]; exact fun _ h => h
  have hbA : ¬ A b := by rw [hAe]; exact Nat.not_le.mpr hbl
  obtain ⟨tys, κ, B, w, x, ys, ms, hw, kX, kM, hBX, hMX, hRT, hDY, hl⟩ := hI
  refine lv_aload_n hx hb dL_law_783 rfl (lv_at hl 2 rfl) ?_
  refine lv_aload_n hx hb dL_law_784 rfl (lv_at hl 3 rfl) ?_
  refine lv_iload_n hx hb dL_law_785 rfl (lv_at hl 0 rfl) ?_
  refine lv_iconst (v := 1) hx hb dL_law_786 (by decide) ?_
  refine lv_iadd hx hb dL_law_787 ?_
  refine va_sld hx hb hX hbl hbA hw.2.2.2.1 (sc_in (j := 1) (J := 1) (by omega) (by decide) (by decide) (by omega)) dL_law_788 ?_
  refine W.eq (g2 := F0 m 789 ls [.int (xs (6 * k + 1)), .ref aX]) (by rw [sc_ix (J := 1) (by omega) (by decide) (by decide)]) ?_
  refine t_calli (va_runV (As := [.int (xs (6 * k + 1))]) (rest := []) ⟨hx, hb, hml, hown, hts⟩ (t_X11_round l dC dI tys κ B w hw.2.2.2.2 aX kX (xs (6 * k + 1)) H.size) (cwV 1 hts (gUV tw_975 tw_976 tw_977 tw_1 tw_978) rfl rfl rfl (by decide +kernel) ⟨(Nat.le_of_ble_eq_true rfl), (Nat.le_of_ble_eq_true rfl)⟩) ⟨cPre.blind, t_recv hw (ci := 11) kX rfl rfl, cPre.use hw.2.1 hw.1 hw.2.2.1 hE⟩ rfl rfl hl.1 rfl (lv_room (Nat.le_of_ble_eq_true rfl)) dL_law_789 ⟨by show _ ≤ 600000; omega, by show _ ≤ 7302250; omega⟩) hw hA (fun _ _ h => h.1) (fun v789 w1 H locs hp hw => ?_)
  obtain ⟨_, hm⟩ := hp
  have hBX := hBX.sm hm (by decide) (by decide)
  have hMX := hMX.sm hm (by decide) (by decide)
  have hRT := hRT.sm hm (by decide) (by decide)
  have hDY := hDY.sm hm (by decide) (by decide)
  refine lv_pop hx hb dL_law_792 rfl ?_
  refine lv_aload_n hx hb dL_law_793 rfl (lv_at hl 1 rfl) ?_
  refine lv_aload_n hx hb dL_law_794 rfl (lv_at hl 3 rfl) ?_
  refine lv_iload_n hx hb dL_law_795 rfl (lv_at hl 0 rfl) ?_
  refine lv_iconst (v := 1) hx hb dL_law_796 (by decide) ?_
  refine lv_iadd hx hb dL_law_797 ?_
  refine va_sld hx hb hX hbl hbA hw.2.2.2.1 (sc_in (j := 1) (J := 1) (by omega) (by decide) (by decide) (by omega)) dL_law_798 ?_
  refine W.eq (g2 := F0 m 799 ls [.int (xs (6 * k + 1)), .ref aM]) (by rw [sc_ix (J := 1) (by omega) (by decide) (by decide)]) ?_
  refine t_calli (va_runV (As := [.int (xs (6 * k + 1))]) (rest := []) ⟨hx, hb, hml, hown, hts⟩ (t_X12_round l dC dI tys κ B w1 hw.2.2.2.2 aM kM (xs (6 * k + 1)) H.size) (cwV 1 hts (gUV tw_1672 tw_1673 tw_1674 tw_13 tw_1675) rfl rfl rfl (by decide +kernel) ⟨(Nat.le_of_ble_eq_true rfl), (Nat.le_of_ble_eq_true rfl)⟩) ⟨cPre.blind, t_recv hw (ci := 12) kM rfl rfl, cPre.use hw.2.1 hw.1 hw.2.2.1 hE⟩ rfl rfl hl.1 rfl (lv_room (Nat.le_of_ble_eq_true rfl)) dL_law_799 ⟨by show _ ≤ 600000; omega, by show _ ≤ 7302250; omega⟩) hw hA (fun _ _ h => h.1) (fun v799 w2 H locs hp hw => ?_)
  obtain ⟨_, hm⟩ := hp
  have hBX := hBX.sm hm (by decide) (by decide)
  have hMX := hMX.sm hm (by decide) (by decide)
  have hRT := hRT.sm hm (by decide) (by decide)
  have hDY := hDY.sm hm (by decide) (by decide)
  refine lv_pop hx hb dL_law_802 rfl ?_
  refine lv_goto (tgt := 1119) hx hb dL_law_803 (by decide) ?_
  exact law_next C0 A hAe aX aM k cs sl hk hkk next H locs ls (by omega) (by omega) ⟨tys, κ, B, w2, x, ys, ms, hw, kX, kM, hBX, hMX, hRT, hDY, hl⟩
set_option maxHeartbeats 4000000 in
set_option maxRecDepth 100000 in
theorem law_case_22 {p : Program} {l : Launch} {e : Env} {s : State} {m : MethodId} {below : List Frame} {meth : Method} {c : Code} {dC : Nat → ClassId} {dI : Nat → Nat → Nat} {b L : Nat} {xs : Nat → Int32} {aK aV : Nat → Nat} (C0 : lw_At p s m meth c b L xs) (hE : gE s) (A : Nat → Prop) (hAe : A = fun q : Nat => s.heap.size ≤ q) (hStr : gS aK aV A s s.heap) (hR : gR aK s) (aX aM k cs sl : Nat) (hk : 6 * k + 6 ≤ L) (hkk : k ≤ 512) (hcs : cs + 11 ≤ 600000) (hsl : sl + 200 ≤ 7302250) (next : ∀ (H : Heap) (locs : List Loc) (ls : Array Slot), LInv (dC, dI) A s b aX aM (k + 1) H locs ls → W p l e room_1 s m #[Value.ref b] below meth c H locs (cs + 11) (sl + 200) (lw_Z below #[Value.ref b] s) (F0 m 18 ls [])) (H : Heap) (locs : List Loc) (ls : Array Slot) (hI : LInv (dC, dI) A s b aX aM k H locs ls) : W p l e room_1 s m #[Value.ref b] below meth c H locs cs sl (lw_Z below #[Value.ref b] s) (F0 m 806 ls []) := by
  obtain ⟨hx, hb, hr, hml, hown, hts0, hX, hbl, hlocks, hgv⟩ := id C0
  have hts : ∀ w ∈ gT, w.before #[Value.ref b] s = true := fun w h => hts0 w (gT_sub h)
  have hA : ∀ q : Nat, s.heap.size ≤ q → A q := by rw [hAe]; exact fun _ h => h
  have hbA : ¬ A b := by rw [hAe]; exact Nat.not_le.mpr hbl
  obtain ⟨tys, κ, B, w, x, ys, ms, hw, kX, kM, hBX, hMX, hRT, hDY, hl⟩ := hI
  refine lv_aload_n hx hb dL_law_806 rfl (lv_at hl 2 rfl) ?_
  refine lv_aload_n hx hb dL_law_807 rfl (lv_at hl 3 rfl) ?_
  refine lv_iload_n hx hb dL_law_808 rfl (lv_at hl 0 rfl) ?_
  refine lv_iconst (v := 1) hx hb dL_law_809 (by decide) ?_
  refine lv_iadd hx hb dL_law_810 ?_
  refine va_sld hx hb hX hbl hbA hw.2.2.2.1 (sc_in (j := 1) (J := 1) (by omega) (by decide) (by decide) (by omega)) dL_law_811 ?_
  refine W.eq (g2 := F0 m 812 ls [.int (xs (6 * k + 1)), .ref aX]) (by rw [sc_ix (J := 1) (by omega) (by decide) (by decide)]) ?_
  refine lv_aload_n hx hb dL_law_812 rfl (lv_at hl 3 rfl) ?_
  refine lv_iload_n hx hb dL_law_813 rfl (lv_at hl 0 rfl) ?_
  refine lv_iconst (v := 2) hx hb dL_law_814 (by decide) ?_
  refine lv_iadd hx hb dL_law_815 ?_
  refine va_sld hx hb hX hbl hbA hw.2.2.2.1 (sc_in (j := 2) (J := 2) (by omega) (by decide) (by decide) (by omega)) dL_law_816 ?_
  refine W.eq (g2 := F0 m 817 ls [.int (xs (6 * k + 2)), .int (xs (6 * k + 1)), .ref aX]) (by rw [sc_ix (J := 2) (by omega) (by decide) (by decide)]) ?_
  refine t_calli (va_runV (As := [.int (xs (6 * k + 1)), .int (xs (6 * k + 2))]) (rest := []) ⟨hx, hb, hml, hown, hts⟩ (t_X11_falls l dC dI tys κ B w hw.2.2.2.2 aX kX (xs (6 * k + 1)) (xs (6 * k + 2)) H.size) (cwV 2 hts (gUV tw_994 tw_995 tw_996 tw_1 tw_997) rfl rfl rfl (by decide +kernel) ⟨(Nat.le_of_ble_eq_true rfl), (Nat.le_of_ble_eq_true rfl)⟩) ⟨cPre.blind, t_recv hw (ci := 11) kX rfl rfl, cPre.use hw.2.1 hw.1 hw.2.2.1 hE⟩ rfl rfl hl.1 rfl (lv_room (Nat.le_of_ble_eq_true rfl)) dL_law_817 ⟨by show _ ≤ 600000; omega, by show _ ≤ 7302250; omega⟩) hw hA (fun _ _ h => h.2.2.1) (fun v817 w1 H locs hp hw => ?_)
  obtain ⟨_, _, _, hm⟩ := hp
  have hBX := hBX.sm hm (by decide) (by decide)
  have hMX := hMX.sm hm (by decide) (by decide)
  have hRT := hRT.sm hm (by decide) (by decide)
  have hDY := hDY.sm hm (by decide) (by decide)
  refine lv_pop hx hb dL_law_820 rfl ?_
  refine lv_aload_n hx hb dL_law_821 rfl (lv_at hl 1 rfl) ?_
  refine lv_aload_n hx hb dL_law_822 rfl (lv_at hl 3 rfl) ?_
  refine lv_iload_n hx hb dL_law_823 rfl (lv_at hl 0 rfl) ?_
  refine lv_iconst (v := 1) hx hb dL_law_824 (by decide) ?_
  refine lv_iadd hx hb dL_law_825 ?_
  refine va_sld hx hb hX hbl hbA hw.2.2.2.1 (sc_in (j := 1) (J := 1) (by omega) (by decide) (by decide) (by omega)) dL_law_826 ?_
  refine W.eq (g2 := F0 m 827 ls [.int (xs (6 * k + 1)), .ref aM]) (by rw [sc_ix (J := 1) (by omega) (by decide) (by decide)]) ?_
  refine lv_aload_n hx hb dL_law_827 rfl (lv_at hl 3 rfl) ?_
  refine lv_iload_n hx hb dL_law_828 rfl (lv_at hl 0 rfl) ?_
  refine lv_iconst (v := 2) hx hb dL_law_829 (by decide) ?_
  refine lv_iadd hx hb dL_law_830 ?_
  refine va_sld hx hb hX hbl hbA hw.2.2.2.1 (sc_in (j := 2) (J := 2) (by omega) (by decide) (by decide) (by omega)) dL_law_831 ?_
  refine W.eq (g2 := F0 m 832 ls [.int (xs (6 * k + 2)), .int (xs (6 * k + 1)), .ref aM]) (by rw [sc_ix (J := 2) (by omega) (by decide) (by decide)]) ?_
  refine t_calli (va_runV (As := [.int (xs (6 * k + 1)), .int (xs (6 * k + 2))]) (rest := []) ⟨hx, hb, hml, hown, hts⟩ (t_X12_falls l dC dI tys κ B w1 hw.2.2.2.2 aM kM (xs (6 * k + 1)) (xs (6 * k + 2)) H.size) (cwV 2 hts (gUV tw_1688 tw_1689 tw_1690 tw_13 tw_1691) rfl rfl rfl (by decide +kernel) ⟨(Nat.le_of_ble_eq_true rfl), (Nat.le_of_ble_eq_true rfl)⟩) ⟨cPre.blind, t_recv hw (ci := 12) kM rfl rfl, cPre.use hw.2.1 hw.1 hw.2.2.1 hE⟩ rfl rfl hl.1 rfl (lv_room (Nat.le_of_ble_eq_true rfl)) dL_law_832 ⟨by show _ ≤ 600000; omega, by show _ ≤ 7302250; omega⟩) hw hA (fun _ _ h => h.2.2.1) (fun v832 w2 H locs hp hw => ?_)
  obtain ⟨_, _, _, hm⟩ := hp
  have hBX := hBX.sm hm (by decide) (by decide)
  have hMX := hMX.sm hm (by decide) (by decide)
  have hRT := hRT.sm hm (by decide) (by decide)
  have hDY := hDY.sm hm (by decide) (by decide)
  refine lv_pop hx hb dL_law_835 rfl ?_
  refine lv_goto (tgt := 1119) hx hb dL_law_836 (by decide) ?_
  exact law_next C0 A hAe aX aM k cs sl hk hkk next H locs ls (by omega) (by omega) ⟨tys, κ, B, w2, x, ys, ms, hw, kX, kM, hBX, hMX, hRT, hDY, hl⟩
set_option maxHeartbeats 4000000 in
set_option maxRecDepth 100000 in
theorem law_case_23 {p : Program} {l : Launch} {e : Env} {s : State} {m : MethodId} {below : List Frame} {meth : Method} {c : Code} {dC : Nat → ClassId} {dI : Nat → Nat → Nat} {b L : Nat} {xs : Nat → Int32} {aK aV : Nat → Nat} (C0 : lw_At p s m meth c b L xs) (hE : gE s) (A : Nat → Prop) (hAe : A = fun q : Nat => s.heap.size ≤ q) (hStr : gS aK aV A s s.heap) (hR : gR aK s) (aX aM k cs sl : Nat) (hk : 6 * k + 6 ≤ L) (hkk : k ≤ 512) (hcs : cs + 11 ≤ 600000) (hsl : sl + 200 ≤ 7302250) (next : ∀ (H : Heap) (locs : List Loc) (ls : Array Slot), LInv (dC, dI) A s b aX aM (k + 1) H locs ls → W p l e room_1 s m #[Value.ref b] below meth c H locs (cs + 11) (sl + 200) (lw_Z below #[Value.ref b] s) (F0 m 18 ls [])) (H : Heap) (locs : List Loc) (ls : Array Slot) (hI : LInv (dC, dI) A s b aX aM k H locs ls) : W p l e room_1 s m #[Value.ref b] below meth c H locs cs sl (lw_Z below #[Value.ref b] s) (F0 m 839 ls []) := by
  obtain ⟨hx, hb, hr, hml, hown, hts0, hX, hbl, hlocks, hgv⟩ := id C0
  have hts : ∀ w ∈ gT, w.before #[Value.ref b] s = true := fun w h => hts0 w (gT_sub h)
  have hA : ∀ q : Nat, s.heap.size ≤ q → A q := by rw [hAe]; exact fun _ h => h
  have hbA : ¬ A b := by rw [hAe]; exact Nat.not_le.mpr hbl
  obtain ⟨tys, κ, B, w, x, ys, ms, hw, kX, kM, hBX, hMX, hRT, hDY, hl⟩ := hI
  refine lv_aload_n hx hb dL_law_839 rfl (lv_at hl 2 rfl) ?_
  refine lv_aload_n hx hb dL_law_840 rfl (lv_at hl 3 rfl) ?_
  refine lv_iload_n hx hb dL_law_841 rfl (lv_at hl 0 rfl) ?_
  refine lv_iconst (v := 1) hx hb dL_law_842 (by decide) ?_
  refine lv_iadd hx hb dL_law_843 ?_
  refine va_sld hx hb hX hbl hbA hw.2.2.2.1 (sc_in (j := 1) (J := 1) (by omega) (by decide) (by decide) (by omega)) dL_law_844 ?_
  refine W.eq (g2 := F0 m 845 ls [.int (xs (6 * k + 1)), .ref aX]) (by rw [sc_ix (J := 1) (by omega) (by decide) (by decide)]) ?_
  refine lv_aload_n hx hb dL_law_845 rfl (lv_at hl 3 rfl) ?_
  refine lv_iload_n hx hb dL_law_846 rfl (lv_at hl 0 rfl) ?_
  refine lv_iconst (v := 2) hx hb dL_law_847 (by decide) ?_
  refine lv_iadd hx hb dL_law_848 ?_
  refine va_sld hx hb hX hbl hbA hw.2.2.2.1 (sc_in (j := 2) (J := 2) (by omega) (by decide) (by decide) (by omega)) dL_law_849 ?_
  refine W.eq (g2 := F0 m 850 ls [.int (xs (6 * k + 2)), .int (xs (6 * k + 1)), .ref aX]) (by rw [sc_ix (J := 2) (by omega) (by decide) (by decide)]) ?_
  refine t_calli (va_runV (As := [.int (xs (6 * k + 1)), .int (xs (6 * k + 2))]) (rest := []) ⟨hx, hb, hml, hown, hts⟩ (t_X11_likely l dC dI tys κ B w hw.2.2.2.2 aX kX (xs (6 * k + 1)) (xs (6 * k + 2)) H.size) (cwV 2 hts (gUV tw_1002 tw_1003 tw_1004 tw_1 tw_1005) rfl rfl rfl (by decide +kernel) ⟨(Nat.le_of_ble_eq_true rfl), (Nat.le_of_ble_eq_true rfl)⟩) ⟨cPre.blind, t_recv hw (ci := 11) kX rfl rfl, cPre.use hw.2.1 hw.1 hw.2.2.1 hE⟩ rfl rfl hl.1 rfl (lv_room (Nat.le_of_ble_eq_true rfl)) dL_law_850 ⟨by show _ ≤ 600000; omega, by show _ ≤ 7302250; omega⟩) hw hA (fun _ _ h => h.1) (fun v850 w1 H locs hp hw => ?_)
  obtain ⟨_, hm⟩ := hp
  have hBX := hBX.sm hm (by decide) (by decide)
  have hMX := hMX.sm hm (by decide) (by decide)
  have hRT := hRT.sm hm (by decide) (by decide)
  have hDY := hDY.sm hm (by decide) (by decide)
  refine lv_pop hx hb dL_law_853 rfl ?_
  refine lv_aload_n hx hb dL_law_854 rfl (lv_at hl 1 rfl) ?_
  refine lv_aload_n hx hb dL_law_855 rfl (lv_at hl 3 rfl) ?_
  refine lv_iload_n hx hb dL_law_856 rfl (lv_at hl 0 rfl) ?_
  refine lv_iconst (v := 1) hx hb dL_law_857 (by decide) ?_
  refine lv_iadd hx hb dL_law_858 ?_
  refine va_sld hx hb hX hbl hbA hw.2.2.2.1 (sc_in (j := 1) (J := 1) (by omega) (by decide) (by decide) (by omega)) dL_law_859 ?_
  refine W.eq (g2 := F0 m 860 ls [.int (xs (6 * k + 1)), .ref aM]) (by rw [sc_ix (J := 1) (by omega) (by decide) (by decide)]) ?_
  refine lv_aload_n hx hb dL_law_860 rfl (lv_at hl 3 rfl) ?_
  refine lv_iload_n hx hb dL_law_861 rfl (lv_at hl 0 rfl) ?_
  refine lv_iconst (v := 2) hx hb dL_law_862 (by decide) ?_
  refine lv_iadd hx hb dL_law_863 ?_
  refine va_sld hx hb hX hbl hbA hw.2.2.2.1 (sc_in (j := 2) (J := 2) (by omega) (by decide) (by decide) (by omega)) dL_law_864 ?_
  refine W.eq (g2 := F0 m 865 ls [.int (xs (6 * k + 2)), .int (xs (6 * k + 1)), .ref aM]) (by rw [sc_ix (J := 2) (by omega) (by decide) (by decide)]) ?_
  refine t_calli (va_runV (As := [.int (xs (6 * k + 1)), .int (xs (6 * k + 2))]) (rest := []) ⟨hx, hb, hml, hown, hts⟩ (t_X12_likely l dC dI tys κ B w1 hw.2.2.2.2 aM kM (xs (6 * k + 1)) (xs (6 * k + 2)) H.size) (cwV 2 hts (gUV tw_1692 tw_1693 tw_1694 tw_13 tw_1695) rfl rfl rfl (by decide +kernel) ⟨(Nat.le_of_ble_eq_true rfl), (Nat.le_of_ble_eq_true rfl)⟩) ⟨cPre.blind, t_recv hw (ci := 12) kM rfl rfl, cPre.use hw.2.1 hw.1 hw.2.2.1 hE⟩ rfl rfl hl.1 rfl (lv_room (Nat.le_of_ble_eq_true rfl)) dL_law_865 ⟨by show _ ≤ 600000; omega, by show _ ≤ 7302250; omega⟩) hw hA (fun _ _ h => h.1) (fun v865 w2 H locs hp hw => ?_)
  obtain ⟨_, hm⟩ := hp
  have hBX := hBX.sm hm (by decide) (by decide)
  have hMX := hMX.sm hm (by decide) (by decide)
  have hRT := hRT.sm hm (by decide) (by decide)
  have hDY := hDY.sm hm (by decide) (by decide)
  refine lv_pop hx hb dL_law_868 rfl ?_
  refine lv_goto (tgt := 1119) hx hb dL_law_869 (by decide) ?_
  exact law_next C0 A hAe aX aM k cs sl hk hkk next H locs ls (by omega) (by omega) ⟨tys, κ, B, w2, x, ys, ms, hw, kX, kM, hBX, hMX, hRT, hDY, hl⟩
set_option maxHeartbeats 4000000 in
set_option maxRecDepth 100000 in
theorem law_case_24 {p : Program} {l : Launch} {e : Env} {s : State} {m : MethodId} {below : List Frame} {meth : Method} {c : Code} {dC : Nat → ClassId} {dI : Nat → Nat → Nat} {b L : Nat} {xs : Nat → Int32} {aK aV : Nat → Nat} (C0 : lw_At p s m meth c b L xs) (hE : gE s) (A : Nat → Prop) (hAe : A = fun q : Nat => s.heap.size ≤ q) (hStr : gS aK aV A s s.heap) (hR : gR aK s) (aX aM k cs sl : Nat) (hk : 6 * k + 6 ≤ L) (hkk : k ≤ 512) (hcs : cs + 11 ≤ 600000) (hsl : sl + 200 ≤ 7302250) (next : ∀ (H : Heap) (locs : List Loc) (ls : Array Slot), LInv (dC, dI) A s b aX aM (k + 1) H locs ls → W p l e room_1 s m #[Value.ref b] below meth c H locs (cs + 11) (sl + 200) (lw_Z below #[Value.ref b] s) (F0 m 18 ls [])) (H : Heap) (locs : List Loc) (ls : Array Slot) (hI : LInv (dC, dI) A s b aX aM k H locs ls) : W p l e room_1 s m #[Value.ref b] below meth c H locs cs sl (lw_Z below #[Value.ref b] s) (F0 m 872 ls []) := by
  obtain ⟨hx, hb, hr, hml, hown, hts0, hX, hbl, hlocks, hgv⟩ := id C0
  have hts : ∀ w ∈ gT, w.before #[Value.ref b] s = true := fun w h => hts0 w (gT_sub h)
  have hA : ∀ q : Nat, s.heap.size ≤ q → A q := by rw [hAe]; exact fun _ h => h
  have hbA : ¬ A b := by rw [hAe]; exact Nat.not_le.mpr hbl
  obtain ⟨tys, κ, B, w, x, ys, ms, hw, kX, kM, hBX, hMX, hRT, hDY, hl⟩ := hI
  refine lv_aload_n hx hb dL_law_872 rfl (lv_at hl 2 rfl) ?_
  refine lv_aload_n hx hb dL_law_873 rfl (lv_at hl 3 rfl) ?_
  refine lv_iload_n hx hb dL_law_874 rfl (lv_at hl 0 rfl) ?_
  refine lv_iconst (v := 1) hx hb dL_law_875 (by decide) ?_
  refine lv_iadd hx hb dL_law_876 ?_
  refine va_sld hx hb hX hbl hbA hw.2.2.2.1 (sc_in (j := 1) (J := 1) (by omega) (by decide) (by decide) (by omega)) dL_law_877 ?_
  refine W.eq (g2 := F0 m 878 ls [.int (xs (6 * k + 1)), .ref aX]) (by rw [sc_ix (J := 1) (by omega) (by decide) (by decide)]) ?_
  refine t_calli (va_runV (As := [.int (xs (6 * k + 1))]) (rest := []) ⟨hx, hb, hml, hown, hts⟩ (t_X11_best l dC dI tys κ B w hw.2.2.2.2 aX kX (xs (6 * k + 1)) H.size) (cwV 1 hts (gUV tw_1007 tw_1008 tw_1009 tw_1 tw_1010) rfl rfl rfl (by decide +kernel) ⟨(Nat.le_of_ble_eq_true rfl), (Nat.le_of_ble_eq_true rfl)⟩) ⟨cPre.blind, t_recv hw (ci := 11) kX rfl rfl, cPre.use hw.2.1 hw.1 hw.2.2.1 hE⟩ rfl rfl hl.1 rfl (lv_room (Nat.le_of_ble_eq_true rfl)) dL_law_878 ⟨by show _ ≤ 600000; omega, by show _ ≤ 7302250; omega⟩) hw hA (fun _ _ h => h.1) (fun v878 w1 H locs hp hw => ?_)
  obtain ⟨_, hm⟩ := hp
  have hBX := hBX.sm hm (by decide) (by decide)
  have hMX := hMX.sm hm (by decide) (by decide)
  have hRT := hRT.sm hm (by decide) (by decide)
  have hDY := hDY.sm hm (by decide) (by decide)
  refine lv_pop hx hb dL_law_881 rfl ?_
  refine lv_aload_n hx hb dL_law_882 rfl (lv_at hl 1 rfl) ?_
  refine lv_aload_n hx hb dL_law_883 rfl (lv_at hl 3 rfl) ?_
  refine lv_iload_n hx hb dL_law_884 rfl (lv_at hl 0 rfl) ?_
  refine lv_iconst (v := 1) hx hb dL_law_885 (by decide) ?_
  refine lv_iadd hx hb dL_law_886 ?_
  refine va_sld hx hb hX hbl hbA hw.2.2.2.1 (sc_in (j := 1) (J := 1) (by omega) (by decide) (by decide) (by omega)) dL_law_887 ?_
  refine W.eq (g2 := F0 m 888 ls [.int (xs (6 * k + 1)), .ref aM]) (by rw [sc_ix (J := 1) (by omega) (by decide) (by decide)]) ?_
  refine t_calli (va_runV (As := [.int (xs (6 * k + 1))]) (rest := []) ⟨hx, hb, hml, hown, hts⟩ (t_X12_best l dC dI tys κ B w1 hw.2.2.2.2 aM kM (xs (6 * k + 1)) H.size) (cwV 1 hts (gUV tw_1696 tw_1697 tw_1698 tw_13 tw_1699) rfl rfl rfl (by decide +kernel) ⟨(Nat.le_of_ble_eq_true rfl), (Nat.le_of_ble_eq_true rfl)⟩) ⟨cPre.blind, t_recv hw (ci := 12) kM rfl rfl, cPre.use hw.2.1 hw.1 hw.2.2.1 hE⟩ rfl rfl hl.1 rfl (lv_room (Nat.le_of_ble_eq_true rfl)) dL_law_888 ⟨by show _ ≤ 600000; omega, by show _ ≤ 7302250; omega⟩) hw hA (fun _ _ h => h.1) (fun v888 w2 H locs hp hw => ?_)
  obtain ⟨_, hm⟩ := hp
  have hBX := hBX.sm hm (by decide) (by decide)
  have hMX := hMX.sm hm (by decide) (by decide)
  have hRT := hRT.sm hm (by decide) (by decide)
  have hDY := hDY.sm hm (by decide) (by decide)
  refine lv_pop hx hb dL_law_891 rfl ?_
  refine lv_goto (tgt := 1119) hx hb dL_law_892 (by decide) ?_
  exact law_next C0 A hAe aX aM k cs sl hk hkk next H locs ls (by omega) (by omega) ⟨tys, κ, B, w2, x, ys, ms, hw, kX, kM, hBX, hMX, hRT, hDY, hl⟩
set_option maxHeartbeats 4000000 in
set_option maxRecDepth 100000 in
theorem law_case_25 {p : Program} {l : Launch} {e : Env} {s : State} {m : MethodId} {below : List Frame} {meth : Method} {c : Code} {dC : Nat → ClassId} {dI : Nat → Nat → Nat} {b L : Nat} {xs : Nat → Int32} {aK aV : Nat → Nat} (C0 : lw_At p s m meth c b L xs) (hE : gE s) (A : Nat → Prop) (hAe : A = fun q : Nat => s.heap.size ≤ q) (hStr : gS aK aV A s s.heap) (hR : gR aK s) (aX aM k cs sl : Nat) (hk : 6 * k + 6 ≤ L) (hkk : k ≤ 512) (hcs : cs + 11 ≤ 600000) (hsl : sl + 200 ≤ 7302250) (next : ∀ (H : Heap) (locs : List Loc) (ls : Array Slot), LInv (dC, dI) A s b aX aM (k + 1) H locs ls → W p l e room_1 s m #[Value.ref b] below meth c H locs (cs + 11) (sl + 200) (lw_Z below #[Value.ref b] s) (F0 m 18 ls [])) (H : Heap) (locs : List Loc) (ls : Array Slot) (hI : LInv (dC, dI) A s b aX aM k H locs ls) : W p l e room_1 s m #[Value.ref b] below meth c H locs cs sl (lw_Z below #[Value.ref b] s) (F0 m 895 ls []) := by
  obtain ⟨hx, hb, hr, hml, hown, hts0, hX, hbl, hlocks, hgv⟩ := id C0
  have hts : ∀ w ∈ gT, w.before #[Value.ref b] s = true := fun w h => hts0 w (gT_sub h)
  have hA : ∀ q : Nat, s.heap.size ≤ q → A q := by rw [hAe]; exact fun _ h => h
  have hbA : ¬ A b := by rw [hAe]; exact Nat.not_le.mpr hbl
  obtain ⟨tys, κ, B, w, x, ys, ms, hw, kX, kM, hBX, hMX, hRT, hDY, hl⟩ := hI
  refine lv_aload_n hx hb dL_law_895 rfl (lv_at hl 2 rfl) ?_
  refine lv_aload_n hx hb dL_law_896 rfl (lv_at hl 3 rfl) ?_
  refine lv_iload_n hx hb dL_law_897 rfl (lv_at hl 0 rfl) ?_
  refine lv_iconst (v := 1) hx hb dL_law_898 (by decide) ?_
  refine lv_iadd hx hb dL_law_899 ?_
  refine va_sld hx hb hX hbl hbA hw.2.2.2.1 (sc_in (j := 1) (J := 1) (by omega) (by decide) (by decide) (by omega)) dL_law_900 ?_
  refine W.eq (g2 := F0 m 901 ls [.int (xs (6 * k + 1)), .ref aX]) (by rw [sc_ix (J := 1) (by omega) (by decide) (by decide)]) ?_
  refine lv_aload_n hx hb dL_law_901 rfl (lv_at hl 3 rfl) ?_
  refine lv_iload_n hx hb dL_law_902 rfl (lv_at hl 0 rfl) ?_
  refine lv_iconst (v := 2) hx hb dL_law_903 (by decide) ?_
  refine lv_iadd hx hb dL_law_904 ?_
  refine va_sld hx hb hX hbl hbA hw.2.2.2.1 (sc_in (j := 2) (J := 2) (by omega) (by decide) (by decide) (by omega)) dL_law_905 ?_
  refine W.eq (g2 := F0 m 906 ls [.int (xs (6 * k + 2)), .int (xs (6 * k + 1)), .ref aX]) (by rw [sc_ix (J := 2) (by omega) (by decide) (by decide)]) ?_
  refine t_calli (va_runV (As := [.int (xs (6 * k + 1)), .int (xs (6 * k + 2))]) (rest := []) ⟨hx, hb, hml, hown, hts⟩ (t_X11_note l dC dI tys κ B w hw.2.2.2.2 aX kX (xs (6 * k + 1)) (xs (6 * k + 2)) H.size) (cwV 2 hts (gUV tw_1015 tw_1016 tw_1017 tw_1 tw_1018) rfl rfl rfl (by decide +kernel) ⟨(Nat.le_of_ble_eq_true rfl), (Nat.le_of_ble_eq_true rfl)⟩) ⟨cPre.blind, t_recv hw (ci := 11) kX rfl rfl, cPre.use hw.2.1 hw.1 hw.2.2.1 hE⟩ rfl rfl hl.1 rfl (lv_room (Nat.le_of_ble_eq_true rfl)) dL_law_906 ⟨by show _ ≤ 600000; omega, by show _ ≤ 7302250; omega⟩) hw hA (fun _ _ h => h.2.2.1) (fun v906 w1 H locs hp hw => ?_)
  obtain ⟨_, _, _, hm⟩ := hp
  have hBX := hBX.sm hm (by decide) (by decide)
  have hMX := hMX.sm hm (by decide) (by decide)
  have hRT := hRT.sm hm (by decide) (by decide)
  have hDY := hDY.sm hm (by decide) (by decide)
  refine lv_pop hx hb dL_law_909 rfl ?_
  refine lv_aload_n hx hb dL_law_910 rfl (lv_at hl 1 rfl) ?_
  refine lv_aload_n hx hb dL_law_911 rfl (lv_at hl 3 rfl) ?_
  refine lv_iload_n hx hb dL_law_912 rfl (lv_at hl 0 rfl) ?_
  refine lv_iconst (v := 1) hx hb dL_law_913 (by decide) ?_
  refine lv_iadd hx hb dL_law_914 ?_
  refine va_sld hx hb hX hbl hbA hw.2.2.2.1 (sc_in (j := 1) (J := 1) (by omega) (by decide) (by decide) (by omega)) dL_law_915 ?_
  refine W.eq (g2 := F0 m 916 ls [.int (xs (6 * k + 1)), .ref aM]) (by rw [sc_ix (J := 1) (by omega) (by decide) (by decide)]) ?_
  refine lv_aload_n hx hb dL_law_916 rfl (lv_at hl 3 rfl) ?_
  refine lv_iload_n hx hb dL_law_917 rfl (lv_at hl 0 rfl) ?_
  refine lv_iconst (v := 2) hx hb dL_law_918 (by decide) ?_
  refine lv_iadd hx hb dL_law_919 ?_
  refine va_sld hx hb hX hbl hbA hw.2.2.2.1 (sc_in (j := 2) (J := 2) (by omega) (by decide) (by decide) (by omega)) dL_law_920 ?_
  refine W.eq (g2 := F0 m 921 ls [.int (xs (6 * k + 2)), .int (xs (6 * k + 1)), .ref aM]) (by rw [sc_ix (J := 2) (by omega) (by decide) (by decide)]) ?_
  obtain ⟨sA, dd, y1, y2, y3, y4, y5⟩ := hDY
  refine t_calli (va_runV (As := [.int (xs (6 * k + 1)), .int (xs (6 * k + 2))]) (rest := []) ⟨hx, hb, hml, hown, hts⟩ (t_X12_note l dC dI tys κ B w1 hw.2.2.2.2 aM kM (xs (6 * k + 1)) (xs (6 * k + 2)) sA y2 y1 dd y4 y5 y3 H.size) (cwV 2 hts (gUV tw_1700 tw_1701 tw_1702 tw_13 tw_1703) rfl rfl rfl (by decide +kernel) ⟨(Nat.le_of_ble_eq_true rfl), (Nat.le_of_ble_eq_true rfl)⟩) ⟨cPre.blind, t_recv hw (ci := 12) kM rfl rfl, cPre.use hw.2.1 hw.1 hw.2.2.1 hE⟩ rfl rfl hl.1 rfl (lv_room (Nat.le_of_ble_eq_true rfl)) dL_law_921 ⟨by show _ ≤ 600000; omega, by show _ ≤ 7302250; omega⟩) hw hA (fun _ _ h => h.2.2.1) (fun v921 w2 H locs hp hw => ?_)
  obtain ⟨_, _, _, hm, hxk⟩ := hp
  have hBX := hBX.sm hm (by decide) (by decide)
  have hMX := hMX.sm hm (by decide) (by decide)
  have hRT := hRT.sm hm (by decide) (by decide)
  have hDY : DY κ w2 aM := ⟨sA, dd, hm.1 _ _ _ _ y1 (by decide), y2, hxk, y4, y5⟩
  refine lv_pop hx hb dL_law_924 rfl ?_
  refine lv_goto (tgt := 1119) hx hb dL_law_925 (by decide) ?_
  exact law_next C0 A hAe aX aM k cs sl hk hkk next H locs ls (by omega) (by omega) ⟨tys, κ, B, w2, x, ys, ms, hw, kX, kM, hBX, hMX, hRT, hDY, hl⟩
set_option maxHeartbeats 4000000 in
set_option maxRecDepth 100000 in
theorem law_case_26 {p : Program} {l : Launch} {e : Env} {s : State} {m : MethodId} {below : List Frame} {meth : Method} {c : Code} {dC : Nat → ClassId} {dI : Nat → Nat → Nat} {b L : Nat} {xs : Nat → Int32} {aK aV : Nat → Nat} (C0 : lw_At p s m meth c b L xs) (hE : gE s) (A : Nat → Prop) (hAe : A = fun q : Nat => s.heap.size ≤ q) (hStr : gS aK aV A s s.heap) (hR : gR aK s) (aX aM k cs sl : Nat) (hk : 6 * k + 6 ≤ L) (hkk : k ≤ 512) (hcs : cs + 11 ≤ 600000) (hsl : sl + 200 ≤ 7302250) (next : ∀ (H : Heap) (locs : List Loc) (ls : Array Slot), LInv (dC, dI) A s b aX aM (k + 1) H locs ls → W p l e room_1 s m #[Value.ref b] below meth c H locs (cs + 11) (sl + 200) (lw_Z below #[Value.ref b] s) (F0 m 18 ls [])) (H : Heap) (locs : List Loc) (ls : Array Slot) (hI : LInv (dC, dI) A s b aX aM k H locs ls) : W p l e room_1 s m #[Value.ref b] below meth c H locs cs sl (lw_Z below #[Value.ref b] s) (F0 m 928 ls []) := by
  obtain ⟨hx, hb, hr, hml, hown, hts0, hX, hbl, hlocks, hgv⟩ := id C0
  have hts : ∀ w ∈ gT, w.before #[Value.ref b] s = true := fun w h => hts0 w (gT_sub h)
  have hA : ∀ q : Nat, s.heap.size ≤ q → A q := by rw [hAe]; exact fun _ h => h
  have hbA : ¬ A b := by rw [hAe]; exact Nat.not_le.mpr hbl
  obtain ⟨tys, κ, B, w, x, ys, ms, hw, kX, kM, hBX, hMX, hRT, hDY, hl⟩ := hI
  refine lv_aload_n hx hb dL_law_928 rfl (lv_at hl 2 rfl) ?_
  refine lv_aload_n hx hb dL_law_929 rfl (lv_at hl 3 rfl) ?_
  refine lv_iload_n hx hb dL_law_930 rfl (lv_at hl 0 rfl) ?_
  refine lv_iconst (v := 1) hx hb dL_law_931 (by decide) ?_
  refine lv_iadd hx hb dL_law_932 ?_
  refine va_sld hx hb hX hbl hbA hw.2.2.2.1 (sc_in (j := 1) (J := 1) (by omega) (by decide) (by decide) (by omega)) dL_law_933 ?_
  refine W.eq (g2 := F0 m 934 ls [.int (xs (6 * k + 1)), .ref aX]) (by rw [sc_ix (J := 1) (by omega) (by decide) (by decide)]) ?_
  refine t_calli (va_runV (As := [.int (xs (6 * k + 1))]) (rest := []) ⟨hx, hb, hml, hown, hts⟩ (t_X11_ruled l dC dI tys κ B w hw.2.2.2.2 aX kX (xs (6 * k + 1)) H.size) (cwV 1 hts (gUV tw_1019 tw_1020 tw_1021 tw_1 tw_1022) rfl rfl rfl (by decide +kernel) ⟨(Nat.le_of_ble_eq_true rfl), (Nat.le_of_ble_eq_true rfl)⟩) ⟨cPre.blind, t_recv hw (ci := 11) kX rfl rfl, cPre.use hw.2.1 hw.1 hw.2.2.1 hE⟩ rfl rfl hl.1 rfl (lv_room (Nat.le_of_ble_eq_true rfl)) dL_law_934 ⟨by show _ ≤ 600000; omega, by show _ ≤ 7302250; omega⟩) hw hA (fun _ _ h => h.2.2.1) (fun v934 w1 H locs hp hw => ?_)
  obtain ⟨_, _, _, hm⟩ := hp
  have hBX := hBX.sm hm (by decide) (by decide)
  have hMX := hMX.sm hm (by decide) (by decide)
  have hRT := hRT.sm hm (by decide) (by decide)
  have hDY := hDY.sm hm (by decide) (by decide)
  refine lv_pop hx hb dL_law_937 rfl ?_
  refine lv_aload_n hx hb dL_law_938 rfl (lv_at hl 1 rfl) ?_
  refine lv_aload_n hx hb dL_law_939 rfl (lv_at hl 3 rfl) ?_
  refine lv_iload_n hx hb dL_law_940 rfl (lv_at hl 0 rfl) ?_
  refine lv_iconst (v := 1) hx hb dL_law_941 (by decide) ?_
  refine lv_iadd hx hb dL_law_942 ?_
  refine va_sld hx hb hX hbl hbA hw.2.2.2.1 (sc_in (j := 1) (J := 1) (by omega) (by decide) (by decide) (by omega)) dL_law_943 ?_
  refine W.eq (g2 := F0 m 944 ls [.int (xs (6 * k + 1)), .ref aM]) (by rw [sc_ix (J := 1) (by omega) (by decide) (by decide)]) ?_
  obtain ⟨sA, dd, y1, y2, y3, y4, y5⟩ := hDY
  refine t_calli (va_runV (As := [.int (xs (6 * k + 1))]) (rest := []) ⟨hx, hb, hml, hown, hts⟩ (t_X12_ruled l dC dI tys κ B w1 hw.2.2.2.2 aM kM (xs (6 * k + 1)) sA y2 y1 dd y4 y5 y3 hRT H.size) (cwV 1 hts (gUV tw_1704 tw_1705 tw_1706 tw_13 tw_1707) rfl rfl rfl (by decide +kernel) ⟨(Nat.le_of_ble_eq_true rfl), (Nat.le_of_ble_eq_true rfl)⟩) ⟨cPre.blind, t_recv hw (ci := 12) kM rfl rfl, cPre.use hw.2.1 hw.1 hw.2.2.1 hE⟩ rfl rfl hl.1 rfl (lv_room (Nat.le_of_ble_eq_true rfl)) dL_law_944 ⟨by show _ ≤ 600000; omega, by show _ ≤ 7302250; omega⟩) hw hA (fun _ _ h => h.1) (fun v944 w2 H locs hp hw => ?_)
  obtain ⟨_, hm, ⟨d1, l1, h1, e1⟩⟩ := hp
  have hBX := hBX.sm hm (by decide) (by decide)
  have hMX := hMX.sm hm (by decide) (by decide)
  have hRT := hRT.sm hm (by decide) (by decide)
  have hDY : DY κ w2 aM := ⟨sA, d1, hm.1 _ _ _ _ y1 (by decide), y2, e1, l1, h1⟩
  refine lv_pop hx hb dL_law_947 rfl ?_
  refine lv_goto (tgt := 1119) hx hb dL_law_948 (by decide) ?_
  exact law_next C0 A hAe aX aM k cs sl hk hkk next H locs ls (by omega) (by omega) ⟨tys, κ, B, w2, x, ys, ms, hw, kX, kM, hBX, hMX, hRT, hDY, hl⟩
set_option maxHeartbeats 4000000 in
set_option maxRecDepth 100000 in
theorem law_case_27 {p : Program} {l : Launch} {e : Env} {s : State} {m : MethodId} {below : List Frame} {meth : Method} {c : Code} {dC : Nat → ClassId} {dI : Nat → Nat → Nat} {b L : Nat} {xs : Nat → Int32} {aK aV : Nat → Nat} (C0 : lw_At p s m meth c b L xs) (hE : gE s) (A : Nat → Prop) (hAe : A = fun q : Nat => s.heap.size ≤ q) (hStr : gS aK aV A s s.heap) (hR : gR aK s) (aX aM k cs sl : Nat) (hk : 6 * k + 6 ≤ L) (hkk : k ≤ 512) (hcs : cs + 11 ≤ 600000) (hsl : sl + 200 ≤ 7302250) (next : ∀ (H : Heap) (locs : List Loc) (ls : Array Slot), LInv (dC, dI) A s b aX aM (k + 1) H locs ls → W p l e room_1 s m #[Value.ref b] below meth c H locs (cs + 11) (sl + 200) (lw_Z below #[Value.ref b] s) (F0 m 18 ls [])) (H : Heap) (locs : List Loc) (ls : Array Slot) (hI : LInv (dC, dI) A s b aX aM k H locs ls) : W p l e room_1 s m #[Value.ref b] below meth c H locs cs sl (lw_Z below #[Value.ref b] s) (F0 m 951 ls []) := by
  obtain ⟨hx, hb, hr, hml, hown, hts0, hX, hbl, hlocks, hgv⟩ := id C0
  have hts : ∀ w ∈ gT, w.before #[Value.ref b] s = true := fun w h => hts0 w (gT_sub h)
  have hA : ∀ q : Nat, s.heap.size ≤ q → A q := by rw [hAe]; exact fun _ h => h
  have hbA : ¬ A b := by rw [hAe]; exact Nat.not_le.mpr hbl
  obtain ⟨tys, κ, B, w, x, ys, ms, hw, kX, kM, hBX, hMX, hRT, hDY, hl⟩ := hI
  refine lv_aload_n hx hb dL_law_951 rfl (lv_at hl 2 rfl) ?_
  refine lv_aload_n hx hb dL_law_952 rfl (lv_at hl 3 rfl) ?_
  refine lv_iload_n hx hb dL_law_953 rfl (lv_at hl 0 rfl) ?_
  refine lv_iconst (v := 1) hx hb dL_law_954 (by decide) ?_
  refine lv_iadd hx hb dL_law_955 ?_
  refine va_sld hx hb hX hbl hbA hw.2.2.2.1 (sc_in (j := 1) (J := 1) (by omega) (by decide) (by decide) (by omega)) dL_law_956 ?_
  refine W.eq (g2 := F0 m 957 ls [.int (xs (6 * k + 1)), .ref aX]) (by rw [sc_ix (J := 1) (by omega) (by decide) (by decide)]) ?_
  refine t_calli (va_runV (As := [.int (xs (6 * k + 1))]) (rest := []) ⟨hx, hb, hml, hown, hts⟩ (t_X11_look l dC dI tys κ B w hw.2.2.2.2 aX kX (xs (6 * k + 1)) H.size) (cwV 1 hts (gUV tw_1045 tw_1046 tw_1047 tw_1 tw_1048) rfl rfl rfl (by decide +kernel) ⟨(Nat.le_of_ble_eq_true rfl), (Nat.le_of_ble_eq_true rfl)⟩) ⟨cPre.blind, t_recv hw (ci := 11) kX rfl rfl, cPre.use hw.2.1 hw.1 hw.2.2.1 hE⟩ rfl rfl hl.1 rfl (lv_room (Nat.le_of_ble_eq_true rfl)) dL_law_957 ⟨by show _ ≤ 600000; omega, by show _ ≤ 7302250; omega⟩) hw hA (fun _ _ h => h.2.2.1) (fun v957 w1 H locs hp hw => ?_)
  obtain ⟨_, _, _, hm⟩ := hp
  have hBX := hBX.sm hm (by decide) (by decide)
  have hMX := hMX.sm hm (by decide) (by decide)
  have hRT := hRT.sm hm (by decide) (by decide)
  have hDY := hDY.sm hm (by decide) (by decide)
  refine lv_pop hx hb dL_law_960 rfl ?_
  refine lv_aload_n hx hb dL_law_961 rfl (lv_at hl 1 rfl) ?_
  refine lv_aload_n hx hb dL_law_962 rfl (lv_at hl 3 rfl) ?_
  refine lv_iload_n hx hb dL_law_963 rfl (lv_at hl 0 rfl) ?_
  refine lv_iconst (v := 1) hx hb dL_law_964 (by decide) ?_
  refine lv_iadd hx hb dL_law_965 ?_
  refine va_sld hx hb hX hbl hbA hw.2.2.2.1 (sc_in (j := 1) (J := 1) (by omega) (by decide) (by decide) (by omega)) dL_law_966 ?_
  refine W.eq (g2 := F0 m 967 ls [.int (xs (6 * k + 1)), .ref aM]) (by rw [sc_ix (J := 1) (by omega) (by decide) (by decide)]) ?_
  obtain ⟨sA, dd, y1, y2, y3, y4, y5⟩ := hDY
  refine t_calli (va_runV (As := [.int (xs (6 * k + 1))]) (rest := []) ⟨hx, hb, hml, hown, hts⟩ (t_X12_look l dC dI tys κ B w1 hw.2.2.2.2 aM kM (xs (6 * k + 1)) sA y2 y1 dd y4 y5 y3 hRT H.size) (cwV 1 hts (gUV tw_1715 tw_1716 tw_1717 tw_13 tw_1718) rfl rfl rfl (by decide +kernel) ⟨(Nat.le_of_ble_eq_true rfl), (Nat.le_of_ble_eq_true rfl)⟩) ⟨cPre.blind, t_recv hw (ci := 12) kM rfl rfl, cPre.use hw.2.1 hw.1 hw.2.2.1 hE⟩ rfl rfl hl.1 rfl (lv_room (Nat.le_of_ble_eq_true rfl)) dL_law_967 ⟨by show _ ≤ 600000; omega, by show _ ≤ 7302250; omega⟩) hw hA (fun _ _ h => h.2.2.1) (fun v967 w2 H locs hp hw => ?_)
  obtain ⟨_, _, _, hm, ⟨d1, l1, h1, e1⟩⟩ := hp
  have hBX := hBX.sm hm (by decide) (by decide)
  have hMX := hMX.sm hm (by decide) (by decide)
  have hRT := hRT.sm hm (by decide) (by decide)
  have hDY : DY κ w2 aM := ⟨sA, d1, hm.1 _ _ _ _ y1 (by decide), y2, e1, l1, h1⟩
  refine lv_pop hx hb dL_law_970 rfl ?_
  refine lv_goto (tgt := 1119) hx hb dL_law_971 (by decide) ?_
  exact law_next C0 A hAe aX aM k cs sl hk hkk next H locs ls (by omega) (by omega) ⟨tys, κ, B, w2, x, ys, ms, hw, kX, kM, hBX, hMX, hRT, hDY, hl⟩
set_option maxHeartbeats 4000000 in
set_option maxRecDepth 100000 in
theorem law_case_28 {p : Program} {l : Launch} {e : Env} {s : State} {m : MethodId} {below : List Frame} {meth : Method} {c : Code} {dC : Nat → ClassId} {dI : Nat → Nat → Nat} {b L : Nat} {xs : Nat → Int32} {aK aV : Nat → Nat} (C0 : lw_At p s m meth c b L xs) (hE : gE s) (A : Nat → Prop) (hAe : A = fun q : Nat => s.heap.size ≤ q) (hStr : gS aK aV A s s.heap) (hR : gR aK s) (aX aM k cs sl : Nat) (hk : 6 * k + 6 ≤ L) (hkk : k ≤ 512) (hcs : cs + 11 ≤ 600000) (hsl : sl + 200 ≤ 7302250) (next : ∀ (H : Heap) (locs : List Loc) (ls : Array Slot), LInv (dC, dI) A s b aX aM (k + 1) H locs ls → W p l e room_1 s m #[Value.ref b] below meth c H locs (cs + 11) (sl + 200) (lw_Z below #[Value.ref b] s) (F0 m 18 ls [])) (H : Heap) (locs : List Loc) (ls : Array Slot) (hI : LInv (dC, dI) A s b aX aM k H locs ls) : W p l e room_1 s m #[Value.ref b] below meth c H locs cs sl (lw_Z below #[Value.ref b] s) (F0 m 974 ls []) := by
  obtain ⟨hx, hb, hr, hml, hown, hts0, hX, hbl, hlocks, hgv⟩ := id C0
  have hts : ∀ w ∈ gT, w.before #[Value.ref b] s = true := fun w h => hts0 w (gT_sub h)
  have hA : ∀ q : Nat, s.heap.size ≤ q → A q := by rw [hAe]; exact fun _ h => h
  have hbA : ¬ A b := by rw [hAe]; exact Nat.not_le.mpr hbl
  obtain ⟨tys, κ, B, w, x, ys, ms, hw, kX, kM, hBX, hMX, hRT, hDY, hl⟩ := hI
  refine lv_aload_n hx hb dL_law_974 rfl (lv_at hl 2 rfl) ?_
  refine lv_aload_n hx hb dL_law_975 rfl (lv_at hl 3 rfl) ?_
  refine lv_iload_n hx hb dL_law_976 rfl (lv_at hl 0 rfl) ?_
  refine lv_iconst (v := 1) hx hb dL_law_977 (by decide) ?_
  refine lv_iadd hx hb dL_law_978 ?_
  refine va_sld hx hb hX hbl hbA hw.2.2.2.1 (sc_in (j := 1) (J := 1) (by omega) (by decide) (by decide) (by omega)) dL_law_979 ?_
  refine W.eq (g2 := F0 m 980 ls [.int (xs (6 * k + 1)), .ref aX]) (by rw [sc_ix (J := 1) (by omega) (by decide) (by decide)]) ?_
  refine t_calli (va_runV (As := [.int (xs (6 * k + 1))]) (rest := []) ⟨hx, hb, hml, hown, hts⟩ (t_X11_seed_x l dC dI tys κ B w hw.2.2.2.2 aX kX (xs (6 * k + 1)) hBX H.size) (cwV 1 hts (gUV tw_1063 tw_1064 tw_1065 tw_1 tw_1066) rfl rfl rfl (by decide +kernel) ⟨(Nat.le_of_ble_eq_true rfl), (Nat.le_of_ble_eq_true rfl)⟩) ⟨cPre.blind, t_recv hw (ci := 11) kX rfl rfl, cPre.use hw.2.1 hw.1 hw.2.2.1 hE⟩ rfl rfl hl.1 rfl (lv_room (Nat.le_of_ble_eq_true rfl)) dL_law_980 ⟨by show _ ≤ 600000; omega, by show _ ≤ 7302250; omega⟩) hw hA (fun _ _ h => h.1) (fun v980 w1 H locs hp hw => ?_)
  obtain ⟨_, hm, g_aX⟩ := hp
  have hMX := hMX.sm hm (by decide) (by decide)
  have hRT := hRT.sm hm (by decide) (by decide)
  have hDY := hDY.sm hm (by decide) (by decide)
  have hm1 := hm
  refine lv_aload_n hx hb dL_law_983 rfl (lv_at hl 1 rfl) ?_
  refine lv_aload_n hx hb dL_law_984 rfl (lv_at hl 3 rfl) ?_
  refine lv_iload_n hx hb dL_law_985 rfl (lv_at hl 0 rfl) ?_
  refine lv_iconst (v := 1) hx hb dL_law_986 (by decide) ?_
  refine lv_iadd hx hb dL_law_987 ?_
  refine va_sld hx hb hX hbl hbA hw.2.2.2.1 (sc_in (j := 1) (J := 1) (by omega) (by decide) (by decide) (by omega)) dL_law_988 ?_
  refine W.eq (g2 := F0 m 989 ls [.int (xs (6 * k + 1)), .ref aM, .int v980]) (by rw [sc_ix (J := 1) (by omega) (by decide) (by decide)]) ?_
  refine t_calli (va_runV (As := [.int (xs (6 * k + 1))]) (rest := [.int v980]) ⟨hx, hb, hml, hown, hts⟩ (t_X12_seed_x l dC dI tys κ B w1 hw.2.2.2.2 aM kM (xs (6 * k + 1)) hMX H.size) (cwV 1 hts (gUV tw_1723 tw_1724 tw_1725 tw_13 tw_1726) rfl rfl rfl (by decide +kernel) ⟨(Nat.le_of_ble_eq_true rfl), (Nat.le_of_ble_eq_true rfl)⟩) ⟨cPre.blind, t_recv hw (ci := 12) kM rfl rfl, cPre.use hw.2.1 hw.1 hw.2.2.1 hE⟩ rfl rfl hl.1 rfl (lv_room (Nat.le_of_ble_eq_true rfl)) dL_law_989 ⟨by show _ ≤ 600000; omega, by show _ ≤ 7302250; omega⟩) hw hA (fun _ _ h => h.1) (fun v989 w2 H locs hp hw => ?_)
  obtain ⟨_, hm, g_aM⟩ := hp
  have hRT := hRT.sm hm (by decide) (by decide)
  have hDY := hDY.sm hm (by decide) (by decide)
  obtain ⟨hrr, z, hBX, hMX⟩ := seed_both g_aX hm (by decide) (by decide) g_aM
  refine lv_icmp_eq (tgt := 1119) hx hb dL_law_992 (by decide) (fun _ => ?_) (fun h => absurd hrr h)
  exact law_next C0 A hAe aX aM k cs sl hk hkk next H locs ls (by omega) (by omega) ⟨tys, κ, B, w2, z, ys, ms, hw, kX, kM, hBX, hMX, hRT, hDY, hl⟩
set_option maxHeartbeats 4000000 in
set_option maxRecDepth 100000 in
theorem law_case_29 {p : Program} {l : Launch} {e : Env} {s : State} {m : MethodId} {below : List Frame} {meth : Method} {c : Code} {dC : Nat → ClassId} {dI : Nat → Nat → Nat} {b L : Nat} {xs : Nat → Int32} {aK aV : Nat → Nat} (C0 : lw_At p s m meth c b L xs) (hE : gE s) (A : Nat → Prop) (hAe : A = fun q : Nat => s.heap.size ≤ q) (hStr : gS aK aV A s s.heap) (hR : gR aK s) (aX aM k cs sl : Nat) (hk : 6 * k + 6 ≤ L) (hkk : k ≤ 512) (hcs : cs + 11 ≤ 600000) (hsl : sl + 200 ≤ 7302250) (next : ∀ (H : Heap) (locs : List Loc) (ls : Array Slot), LInv (dC, dI) A s b aX aM (k + 1) H locs ls → W p l e room_1 s m #[Value.ref b] below meth c H locs (cs + 11) (sl + 200) (lw_Z below #[Value.ref b] s) (F0 m 18 ls [])) (H : Heap) (locs : List Loc) (ls : Array Slot) (hI : LInv (dC, dI) A s b aX aM k H locs ls) : W p l e room_1 s m #[Value.ref b] below meth c H locs cs sl (lw_Z below #[Value.ref b] s) (F0 m 997 ls []) := by
  obtain ⟨hx, hb, hr, hml, hown, hts0, hX, hbl, hlocks, hgv⟩ := id C0
  have hts : ∀ w ∈ gT, w.before #[Value.ref b] s = true := fun w h => hts0 w (gT_sub h)
  have hA : ∀ q : Nat, s.heap.size ≤ q → A q := by rw [hAe]; exact fun _ h => h
  have hbA : ¬ A b := by rw [hAe]; exact Nat.not_le.mpr hbl
  obtain ⟨tys, κ, B, w, x, ys, ms, hw, kX, kM, hBX, hMX, hRT, hDY, hl⟩ := hI
  refine lv_aload_n hx hb dL_law_997 rfl (lv_at hl 2 rfl) ?_
  refine lv_aload_n hx hb dL_law_998 rfl (lv_at hl 3 rfl) ?_
  refine lv_iload_n hx hb dL_law_999 rfl (lv_at hl 0 rfl) ?_
  refine lv_iconst (v := 1) hx hb dL_law_1000 (by decide) ?_
  refine lv_iadd hx hb dL_law_1001 ?_
  refine va_sld hx hb hX hbl hbA hw.2.2.2.1 (sc_in (j := 1) (J := 1) (by omega) (by decide) (by decide) (by omega)) dL_law_1002 ?_
  refine W.eq (g2 := F0 m 1003 ls [.int (xs (6 * k + 1)), .ref aX]) (by rw [sc_ix (J := 1) (by omega) (by decide) (by decide)]) ?_
  refine lv_aload_n hx hb dL_law_1003 rfl (lv_at hl 3 rfl) ?_
  refine lv_iload_n hx hb dL_law_1004 rfl (lv_at hl 0 rfl) ?_
  refine lv_iconst (v := 2) hx hb dL_law_1005 (by decide) ?_
  refine lv_iadd hx hb dL_law_1006 ?_
  refine va_sld hx hb hX hbl hbA hw.2.2.2.1 (sc_in (j := 2) (J := 2) (by omega) (by decide) (by decide) (by omega)) dL_law_1007 ?_
  refine W.eq (g2 := F0 m 1008 ls [.int (xs (6 * k + 2)), .int (xs (6 * k + 1)), .ref aX]) (by rw [sc_ix (J := 2) (by omega) (by decide) (by decide)]) ?_
  refine lv_aload_n hx hb dL_law_1008 rfl (lv_at hl 3 rfl) ?_
  refine lv_iload_n hx hb dL_law_1009 rfl (lv_at hl 0 rfl) ?_
  refine lv_iconst (v := 3) hx hb dL_law_1010 (by decide) ?_
  refine lv_iadd hx hb dL_law_1011 ?_
  refine va_sld hx hb hX hbl hbA hw.2.2.2.1 (sc_in (j := 3) (J := 3) (by omega) (by decide) (by decide) (by omega)) dL_law_1012 ?_
  refine W.eq (g2 := F0 m 1013 ls [.int (xs (6 * k + 3)), .int (xs (6 * k + 2)), .int (xs (6 * k + 1)), .ref aX]) (by rw [sc_ix (J := 3) (by omega) (by decide) (by decide)]) ?_
  refine lv_aload_n hx hb dL_law_1013 rfl (lv_at hl 3 rfl) ?_
  refine lv_iload_n hx hb dL_law_1014 rfl (lv_at hl 0 rfl) ?_
  refine lv_iconst (v := 4) hx hb dL_law_1015 (by decide) ?_
  refine lv_iadd hx hb dL_law_1016 ?_
  refine va_sld hx hb hX hbl hbA hw.2.2.2.1 (sc_in (j := 4) (J := 4) (by omega) (by decide) (by decide) (by omega)) dL_law_1017 ?_
  refine W.eq (g2 := F0 m 1018 ls [.int (xs (6 * k + 4)), .int (xs (6 * k + 3)), .int (xs (6 * k + 2)), .int (xs (6 * k + 1)), .ref aX]) (by rw [sc_ix (J := 4) (by omega) (by decide) (by decide)]) ?_
  refine t_calli (va_runV (As := [.int (xs (6 * k + 1)), .int (xs (6 * k + 2)), .int (xs (6 * k + 3)), .int (xs (6 * k + 4))]) (rest := []) ⟨hx, hb, hml, hown, hts⟩ (t_X11_winters l dC dI tys κ B w hw.2.2.2.2 aX kX (xs (6 * k + 1)) (xs (6 * k + 2)) (xs (6 * k + 3)) (xs (6 * k + 4)) H.size) (cwV 4 hts (gUV tw_1067 tw_1068 tw_1069 tw_1 tw_1070) rfl rfl rfl (by decide +kernel) ⟨(Nat.le_of_ble_eq_true rfl), (Nat.le_of_ble_eq_true rfl)⟩) ⟨cPre.blind, t_recv hw (ci := 11) kX rfl rfl, cPre.use hw.2.1 hw.1 hw.2.2.1 hE⟩ rfl rfl hl.1 rfl (lv_room (Nat.le_of_ble_eq_true rfl)) dL_law_1018 ⟨by show _ ≤ 600000; omega, by show _ ≤ 7302250; omega⟩) hw hA (fun _ _ h => h.1) (fun v1018 w1 H locs hp hw => ?_)
  obtain ⟨_, hm⟩ := hp
  have hBX := hBX.sm hm (by decide) (by decide)
  have hMX := hMX.sm hm (by decide) (by decide)
  have hRT := hRT.sm hm (by decide) (by decide)
  have hDY := hDY.sm hm (by decide) (by decide)
  refine lv_pop hx hb dL_law_1021 rfl ?_
  refine lv_aload_n hx hb dL_law_1022 rfl (lv_at hl 1 rfl) ?_
  refine lv_aload_n hx hb dL_law_1023 rfl (lv_at hl 3 rfl) ?_
  refine lv_iload_n hx hb dL_law_1024 rfl (lv_at hl 0 rfl) ?_
  refine lv_iconst (v := 1) hx hb dL_law_1025 (by decide) ?_
  refine lv_iadd hx hb dL_law_1026 ?_
  refine va_sld hx hb hX hbl hbA hw.2.2.2.1 (sc_in (j := 1) (J := 1) (by omega) (by decide) (by decide) (by omega)) dL_law_1027 ?_
  refine W.eq (g2 := F0 m 1028 ls [.int (xs (6 * k + 1)), .ref aM]) (by rw [sc_ix (J := 1) (by omega) (by decide) (by decide)]) ?_
  refine lv_aload_n hx hb dL_law_1028 rfl (lv_at hl 3 rfl) ?_
  refine lv_iload_n hx hb dL_law_1029 rfl (lv_at hl 0 rfl) ?_
  refine lv_iconst (v := 2) hx hb dL_law_1030 (by decide) ?_
  refine lv_iadd hx hb dL_law_1031 ?_
  refine va_sld hx hb hX hbl hbA hw.2.2.2.1 (sc_in (j := 2) (J := 2) (by omega) (by decide) (by decide) (by omega)) dL_law_1032 ?_
  refine W.eq (g2 := F0 m 1033 ls [.int (xs (6 * k + 2)), .int (xs (6 * k + 1)), .ref aM]) (by rw [sc_ix (J := 2) (by omega) (by decide) (by decide)]) ?_
  refine lv_aload_n hx hb dL_law_1033 rfl (lv_at hl 3 rfl) ?_
  refine lv_iload_n hx hb dL_law_1034 rfl (lv_at hl 0 rfl) ?_
  refine lv_iconst (v := 3) hx hb dL_law_1035 (by decide) ?_
  refine lv_iadd hx hb dL_law_1036 ?_
  refine va_sld hx hb hX hbl hbA hw.2.2.2.1 (sc_in (j := 3) (J := 3) (by omega) (by decide) (by decide) (by omega)) dL_law_1037 ?_
  refine W.eq (g2 := F0 m 1038 ls [.int (xs (6 * k + 3)), .int (xs (6 * k + 2)), .int (xs (6 * k + 1)), .ref aM]) (by rw [sc_ix (J := 3) (by omega) (by decide) (by decide)]) ?_
  refine lv_aload_n hx hb dL_law_1038 rfl (lv_at hl 3 rfl) ?_
  refine lv_iload_n hx hb dL_law_1039 rfl (lv_at hl 0 rfl) ?_
  refine lv_iconst (v := 4) hx hb dL_law_1040 (by decide) ?_
  refine lv_iadd hx hb dL_law_1041 ?_
  refine va_sld hx hb hX hbl hbA hw.2.2.2.1 (sc_in (j := 4) (J := 4) (by omega) (by decide) (by decide) (by omega)) dL_law_1042 ?_
  refine W.eq (g2 := F0 m 1043 ls [.int (xs (6 * k + 4)), .int (xs (6 * k + 3)), .int (xs (6 * k + 2)), .int (xs (6 * k + 1)), .ref aM]) (by rw [sc_ix (J := 4) (by omega) (by decide) (by decide)]) ?_
  obtain ⟨sA, dd, y1, y2, y3, y4, y5⟩ := hDY
  refine t_calli (va_runV (As := [.int (xs (6 * k + 1)), .int (xs (6 * k + 2)), .int (xs (6 * k + 3)), .int (xs (6 * k + 4))]) (rest := []) ⟨hx, hb, hml, hown, hts⟩ (t_X12_winters l dC dI tys κ B w1 hw.2.2.2.2 aM kM (xs (6 * k + 1)) (xs (6 * k + 2)) (xs (6 * k + 3)) (xs (6 * k + 4)) sA y2 y1 dd y4 y5 y3 hRT H.size) (cwV 4 hts (gUV tw_1727 tw_1728 tw_1729 tw_13 tw_1730) rfl rfl rfl (by decide +kernel) ⟨(Nat.le_of_ble_eq_true rfl), (Nat.le_of_ble_eq_true rfl)⟩) ⟨cPre.blind, t_recv hw (ci := 12) kM rfl rfl, cPre.use hw.2.1 hw.1 hw.2.2.1 hE⟩ rfl rfl hl.1 rfl (lv_room (Nat.le_of_ble_eq_true rfl)) dL_law_1043 ⟨by show _ ≤ 600000; omega, by show _ ≤ 7302250; omega⟩) hw hA (fun _ _ h => h.1) (fun v1043 w2 H locs hp hw => ?_)
  obtain ⟨_, hm, ⟨d1, l1, h1, e1⟩⟩ := hp
  have hBX := hBX.sm hm (by decide) (by decide)
  have hMX := hMX.sm hm (by decide) (by decide)
  have hRT := hRT.sm hm (by decide) (by decide)
  have hDY : DY κ w2 aM := ⟨sA, d1, hm.1 _ _ _ _ y1 (by decide), y2, e1, l1, h1⟩
  refine lv_pop hx hb dL_law_1046 rfl ?_
  refine lv_goto (tgt := 1119) hx hb dL_law_1047 (by decide) ?_
  exact law_next C0 A hAe aX aM k cs sl hk hkk next H locs ls (by omega) (by omega) ⟨tys, κ, B, w2, x, ys, ms, hw, kX, kM, hBX, hMX, hRT, hDY, hl⟩
set_option maxHeartbeats 4000000 in
set_option maxRecDepth 100000 in
theorem law_case_30 {p : Program} {l : Launch} {e : Env} {s : State} {m : MethodId} {below : List Frame} {meth : Method} {c : Code} {dC : Nat → ClassId} {dI : Nat → Nat → Nat} {b L : Nat} {xs : Nat → Int32} {aK aV : Nat → Nat} (C0 : lw_At p s m meth c b L xs) (hE : gE s) (A : Nat → Prop) (hAe : A = fun q : Nat => s.heap.size ≤ q) (hStr : gS aK aV A s s.heap) (hR : gR aK s) (aX aM k cs sl : Nat) (hk : 6 * k + 6 ≤ L) (hkk : k ≤ 512) (hcs : cs + 11 ≤ 600000) (hsl : sl + 200 ≤ 7302250) (next : ∀ (H : Heap) (locs : List Loc) (ls : Array Slot), LInv (dC, dI) A s b aX aM (k + 1) H locs ls → W p l e room_1 s m #[Value.ref b] below meth c H locs (cs + 11) (sl + 200) (lw_Z below #[Value.ref b] s) (F0 m 18 ls [])) (H : Heap) (locs : List Loc) (ls : Array Slot) (hI : LInv (dC, dI) A s b aX aM k H locs ls) : W p l e room_1 s m #[Value.ref b] below meth c H locs cs sl (lw_Z below #[Value.ref b] s) (F0 m 1050 ls []) := by
  obtain ⟨hx, hb, hr, hml, hown, hts0, hX, hbl, hlocks, hgv⟩ := id C0
  have hts : ∀ w ∈ gT, w.before #[Value.ref b] s = true := fun w h => hts0 w (gT_sub h)
  have hA : ∀ q : Nat, s.heap.size ≤ q → A q := by rw [hAe]; exact fun _ h => h
  have hbA : ¬ A b := by rw [hAe]; exact Nat.not_le.mpr hbl
  obtain ⟨tys, κ, B, w, x, ys, ms, hw, kX, kM, hBX, hMX, hRT, hDY, hl⟩ := hI
  refine lv_aload_n hx hb dL_law_1050 rfl (lv_at hl 2 rfl) ?_
  refine lv_aload_n hx hb dL_law_1051 rfl (lv_at hl 3 rfl) ?_
  refine lv_iload_n hx hb dL_law_1052 rfl (lv_at hl 0 rfl) ?_
  refine lv_iconst (v := 1) hx hb dL_law_1053 (by decide) ?_
  refine lv_iadd hx hb dL_law_1054 ?_
  refine va_sld hx hb hX hbl hbA hw.2.2.2.1 (sc_in (j := 1) (J := 1) (by omega) (by decide) (by decide) (by omega)) dL_law_1055 ?_
  refine W.eq (g2 := F0 m 1056 ls [.int (xs (6 * k + 1)), .ref aX]) (by rw [sc_ix (J := 1) (by omega) (by decide) (by decide)]) ?_
  refine t_calli (va_runV (As := [.int (xs (6 * k + 1))]) (rest := []) ⟨hx, hb, hml, hown, hts⟩ (t_X11_count l dC dI tys κ B w hw.2.2.2.2 aX kX (xs (6 * k + 1)) H.size) (cwV 1 hts (gUV tw_1095 tw_1096 tw_1097 tw_1 tw_1098) rfl rfl rfl (by decide +kernel) ⟨(Nat.le_of_ble_eq_true rfl), (Nat.le_of_ble_eq_true rfl)⟩) ⟨cPre.blind, t_recv hw (ci := 11) kX rfl rfl, cPre.use hw.2.1 hw.1 hw.2.2.1 hE⟩ rfl rfl hl.1 rfl (lv_room (Nat.le_of_ble_eq_true rfl)) dL_law_1056 ⟨by show _ ≤ 600000; omega, by show _ ≤ 7302250; omega⟩) hw hA (fun _ _ h => h.1) (fun v1056 w1 H locs hp hw => ?_)
  obtain ⟨_, hm⟩ := hp
  have hBX := hBX.sm hm (by decide) (by decide)
  have hMX := hMX.sm hm (by decide) (by decide)
  have hRT := hRT.sm hm (by decide) (by decide)
  have hDY := hDY.sm hm (by decide) (by decide)
  refine lv_pop hx hb dL_law_1059 rfl ?_
  refine lv_aload_n hx hb dL_law_1060 rfl (lv_at hl 1 rfl) ?_
  refine lv_aload_n hx hb dL_law_1061 rfl (lv_at hl 3 rfl) ?_
  refine lv_iload_n hx hb dL_law_1062 rfl (lv_at hl 0 rfl) ?_
  refine lv_iconst (v := 1) hx hb dL_law_1063 (by decide) ?_
  refine lv_iadd hx hb dL_law_1064 ?_
  refine va_sld hx hb hX hbl hbA hw.2.2.2.1 (sc_in (j := 1) (J := 1) (by omega) (by decide) (by decide) (by omega)) dL_law_1065 ?_
  refine W.eq (g2 := F0 m 1066 ls [.int (xs (6 * k + 1)), .ref aM]) (by rw [sc_ix (J := 1) (by omega) (by decide) (by decide)]) ?_
  refine t_calli (va_runV (As := [.int (xs (6 * k + 1))]) (rest := []) ⟨hx, hb, hml, hown, hts⟩ (t_X12_count l dC dI tys κ B w1 hw.2.2.2.2 aM kM (xs (6 * k + 1)) H.size) (cwV 1 hts (gUV tw_1741 tw_1742 tw_1743 tw_13 tw_1744) rfl rfl rfl (by decide +kernel) ⟨(Nat.le_of_ble_eq_true rfl), (Nat.le_of_ble_eq_true rfl)⟩) ⟨cPre.blind, t_recv hw (ci := 12) kM rfl rfl, cPre.use hw.2.1 hw.1 hw.2.2.1 hE⟩ rfl rfl hl.1 rfl (lv_room (Nat.le_of_ble_eq_true rfl)) dL_law_1066 ⟨by show _ ≤ 600000; omega, by show _ ≤ 7302250; omega⟩) hw hA (fun _ _ h => h.1) (fun v1066 w2 H locs hp hw => ?_)
  obtain ⟨_, hm⟩ := hp
  have hBX := hBX.sm hm (by decide) (by decide)
  have hMX := hMX.sm hm (by decide) (by decide)
  have hRT := hRT.sm hm (by decide) (by decide)
  have hDY := hDY.sm hm (by decide) (by decide)
  refine lv_pop hx hb dL_law_1069 rfl ?_
  refine lv_goto (tgt := 1119) hx hb dL_law_1070 (by decide) ?_
  exact law_next C0 A hAe aX aM k cs sl hk hkk next H locs ls (by omega) (by omega) ⟨tys, κ, B, w2, x, ys, ms, hw, kX, kM, hBX, hMX, hRT, hDY, hl⟩
set_option maxHeartbeats 4000000 in
set_option maxRecDepth 100000 in
theorem law_case_31 {p : Program} {l : Launch} {e : Env} {s : State} {m : MethodId} {below : List Frame} {meth : Method} {c : Code} {dC : Nat → ClassId} {dI : Nat → Nat → Nat} {b L : Nat} {xs : Nat → Int32} {aK aV : Nat → Nat} (C0 : lw_At p s m meth c b L xs) (hE : gE s) (A : Nat → Prop) (hAe : A = fun q : Nat => s.heap.size ≤ q) (hStr : gS aK aV A s s.heap) (hR : gR aK s) (aX aM k cs sl : Nat) (hk : 6 * k + 6 ≤ L) (hkk : k ≤ 512) (hcs : cs + 11 ≤ 600000) (hsl : sl + 200 ≤ 7302250) (next : ∀ (H : Heap) (locs : List Loc) (ls : Array Slot), LInv (dC, dI) A s b aX aM (k + 1) H locs ls → W p l e room_1 s m #[Value.ref b] below meth c H locs (cs + 11) (sl + 200) (lw_Z below #[Value.ref b] s) (F0 m 18 ls [])) (H : Heap) (locs : List Loc) (ls : Array Slot) (hI : LInv (dC, dI) A s b aX aM k H locs ls) : W p l e room_1 s m #[Value.ref b] below meth c H locs cs sl (lw_Z below #[Value.ref b] s) (F0 m 1073 ls []) := by
  obtain ⟨hx, hb, hr, hml, hown, hts0, hX, hbl, hlocks, hgv⟩ := id C0
  have hts : ∀ w ∈ gT, w.before #[Value.ref b] s = true := fun w h => hts0 w (gT_sub h)
  have hA : ∀ q : Nat, s.heap.size ≤ q → A q := by rw [hAe]; exact fun _ h => h
  have hbA : ¬ A b := by rw [hAe]; exact Nat.not_le.mpr hbl
  obtain ⟨tys, κ, B, w, x, ys, ms, hw, kX, kM, hBX, hMX, hRT, hDY, hl⟩ := hI
  refine lv_aload_n hx hb dL_law_1073 rfl (lv_at hl 2 rfl) ?_
  refine lv_aload_n hx hb dL_law_1074 rfl (lv_at hl 3 rfl) ?_
  refine lv_iload_n hx hb dL_law_1075 rfl (lv_at hl 0 rfl) ?_
  refine lv_iconst (v := 1) hx hb dL_law_1076 (by decide) ?_
  refine lv_iadd hx hb dL_law_1077 ?_
  refine va_sld hx hb hX hbl hbA hw.2.2.2.1 (sc_in (j := 1) (J := 1) (by omega) (by decide) (by decide) (by omega)) dL_law_1078 ?_
  refine W.eq (g2 := F0 m 1079 ls [.int (xs (6 * k + 1)), .ref aX]) (by rw [sc_ix (J := 1) (by omega) (by decide) (by decide)]) ?_
  refine t_calli (va_runV (As := [.int (xs (6 * k + 1))]) (rest := []) ⟨hx, hb, hml, hown, hts⟩ (t_X11_image_x l dC dI tys κ B w hw.2.2.2.2 aX kX (xs (6 * k + 1)) hBX H.size) (cwV 1 hts (gUV tw_1105 tw_1106 tw_1107 tw_1 tw_1108) rfl rfl rfl (by decide +kernel) ⟨(Nat.le_of_ble_eq_true rfl), (Nat.le_of_ble_eq_true rfl)⟩) ⟨cPre.blind, t_recv hw (ci := 11) kX rfl rfl, cPre.use hw.2.1 hw.1 hw.2.2.1 hE⟩ rfl rfl hl.1 rfl (lv_room (Nat.le_of_ble_eq_true rfl)) dL_law_1079 ⟨by show _ ≤ 600000; omega, by show _ ≤ 7302250; omega⟩) hw hA (fun _ _ h => h.1) (fun v1079 w1 H locs hp hw => ?_)
  obtain ⟨_, hm, g_aX⟩ := hp
  have hMX := hMX.sm hm (by decide) (by decide)
  have hRT := hRT.sm hm (by decide) (by decide)
  have hDY := hDY.sm hm (by decide) (by decide)
  have hm1 := hm
  refine lv_pop hx hb dL_law_1082 rfl ?_
  refine lv_aload_n hx hb dL_law_1083 rfl (lv_at hl 1 rfl) ?_
  refine lv_aload_n hx hb dL_law_1084 rfl (lv_at hl 3 rfl) ?_
  refine lv_iload_n hx hb dL_law_1085 rfl (lv_at hl 0 rfl) ?_
  refine lv_iconst (v := 1) hx hb dL_law_1086 (by decide) ?_
  refine lv_iadd hx hb dL_law_1087 ?_
  refine va_sld hx hb hX hbl hbA hw.2.2.2.1 (sc_in (j := 1) (J := 1) (by omega) (by decide) (by decide) (by omega)) dL_law_1088 ?_
  refine W.eq (g2 := F0 m 1089 ls [.int (xs (6 * k + 1)), .ref aM]) (by rw [sc_ix (J := 1) (by omega) (by decide) (by decide)]) ?_
  obtain ⟨sA, dd, y1, y2, y3, y4, y5⟩ := hDY
  refine t_calli (va_runV (As := [.int (xs (6 * k + 1))]) (rest := []) ⟨hx, hb, hml, hown, hts⟩ (t_X12_image_x l dC dI tys κ B w1 hw.2.2.2.2 aM kM (xs (6 * k + 1)) sA y2 y1 dd y4 y5 y3 hMX H.size) (cwV 1 hts (gUV tw_1745 tw_1746 tw_1747 tw_13 tw_1748) rfl rfl rfl (by decide +kernel) ⟨(Nat.le_of_ble_eq_true rfl), (Nat.le_of_ble_eq_true rfl)⟩) ⟨cPre.blind, t_recv hw (ci := 12) kM rfl rfl, cPre.use hw.2.1 hw.1 hw.2.2.1 hE⟩ rfl rfl hl.1 rfl (lv_room (Nat.le_of_ble_eq_true rfl)) dL_law_1089 ⟨by show _ ≤ 600000; omega, by show _ ≤ 7302250; omega⟩) hw hA (fun _ _ h => h.2.2.1) (fun v1089 w2 H locs hp hw => ?_)
  obtain ⟨_, _, _, hm, g_aM⟩ := hp
  have hRT := hRT.sm hm (by decide) (by decide)
  have hDY : DY κ w2 aM := ⟨sA, dd, hm.1 _ _ _ _ y1 (by decide), y2, hm.elt y2 (by decide) y3, y4, y5⟩
  obtain ⟨z, zs, ns, hBX, hMX⟩ := image_both g_aX hm (by decide) (by decide) g_aM
  refine lv_pop hx hb dL_law_1092 rfl ?_
  refine lv_goto (tgt := 1119) hx hb dL_law_1093 (by decide) ?_
  exact law_next C0 A hAe aX aM k cs sl hk hkk next H locs ls (by omega) (by omega) ⟨tys, κ, B, w2, z, zs, ns, hw, kX, kM, hBX, hMX, hRT, hDY, hl⟩
set_option maxHeartbeats 4000000 in
set_option maxRecDepth 100000 in
theorem law_case_32 {p : Program} {l : Launch} {e : Env} {s : State} {m : MethodId} {below : List Frame} {meth : Method} {c : Code} {dC : Nat → ClassId} {dI : Nat → Nat → Nat} {b L : Nat} {xs : Nat → Int32} {aK aV : Nat → Nat} (C0 : lw_At p s m meth c b L xs) (hE : gE s) (A : Nat → Prop) (hAe : A = fun q : Nat => s.heap.size ≤ q) (hStr : gS aK aV A s s.heap) (hR : gR aK s) (aX aM k cs sl : Nat) (hk : 6 * k + 6 ≤ L) (hkk : k ≤ 512) (hcs : cs + 11 ≤ 600000) (hsl : sl + 200 ≤ 7302250) (next : ∀ (H : Heap) (locs : List Loc) (ls : Array Slot), LInv (dC, dI) A s b aX aM (k + 1) H locs ls → W p l e room_1 s m #[Value.ref b] below meth c H locs (cs + 11) (sl + 200) (lw_Z below #[Value.ref b] s) (F0 m 18 ls [])) (H : Heap) (locs : List Loc) (ls : Array Slot) (hI : LInv (dC, dI) A s b aX aM k H locs ls) : W p l e room_1 s m #[Value.ref b] below meth c H locs cs sl (lw_Z below #[Value.ref b] s) (F0 m 1096 ls []) := by
  obtain ⟨hx, hb, hr, hml, hown, hts0, hX, hbl, hlocks, hgv⟩ := id C0
  have hts : ∀ w ∈ gT, w.before #[Value.ref b] s = true := fun w h => hts0 w (gT_sub h)
  have hA : ∀ q : Nat, s.heap.size ≤ q → A q := by rw [hAe]; exact fun _ h => h
  have hbA : ¬ A b := by rw [hAe]; exact Nat.not_le.mpr hbl
  obtain ⟨tys, κ, B, w, x, ys, ms, hw, kX, kM, hBX, hMX, hRT, hDY, hl⟩ := hI
  refine lv_aload_n hx hb dL_law_1096 rfl (lv_at hl 2 rfl) ?_
  refine lv_aload_n hx hb dL_law_1097 rfl (lv_at hl 3 rfl) ?_
  refine lv_iload_n hx hb dL_law_1098 rfl (lv_at hl 0 rfl) ?_
  refine lv_iconst (v := 1) hx hb dL_law_1099 (by decide) ?_
  refine lv_iadd hx hb dL_law_1100 ?_
  refine va_sld hx hb hX hbl hbA hw.2.2.2.1 (sc_in (j := 1) (J := 1) (by omega) (by decide) (by decide) (by omega)) dL_law_1101 ?_
  refine W.eq (g2 := F0 m 1102 ls [.int (xs (6 * k + 1)), .ref aX]) (by rw [sc_ix (J := 1) (by omega) (by decide) (by decide)]) ?_
  refine t_calli (va_runV (As := [.int (xs (6 * k + 1))]) (rest := []) ⟨hx, hb, hml, hown, hts⟩ (t_X11_back_x l dC dI tys κ B w hw.2.2.2.2 aX kX (xs (6 * k + 1)) hBX H.size) (cwV 1 hts (gUV tw_1115 tw_1116 tw_1117 tw_1 tw_1118) rfl rfl rfl (by decide +kernel) ⟨(Nat.le_of_ble_eq_true rfl), (Nat.le_of_ble_eq_true rfl)⟩) ⟨cPre.blind, t_recv hw (ci := 11) kX rfl rfl, cPre.use hw.2.1 hw.1 hw.2.2.1 hE⟩ rfl rfl hl.1 rfl (lv_room (Nat.le_of_ble_eq_true rfl)) dL_law_1102 ⟨by show _ ≤ 600000; omega, by show _ ≤ 7302250; omega⟩) hw hA (fun _ _ h => h.1) (fun v1102 w1 H locs hp hw => ?_)
  obtain ⟨_, hm, g_aX⟩ := hp
  have hMX := hMX.sm hm (by decide) (by decide)
  have hRT := hRT.sm hm (by decide) (by decide)
  have hDY := hDY.sm hm (by decide) (by decide)
  have hm1 := hm
  refine lv_pop hx hb dL_law_1105 rfl ?_
  refine lv_aload_n hx hb dL_law_1106 rfl (lv_at hl 1 rfl) ?_
  refine lv_aload_n hx hb dL_law_1107 rfl (lv_at hl 3 rfl) ?_
  refine lv_iload_n hx hb dL_law_1108 rfl (lv_at hl 0 rfl) ?_
  refine lv_iconst (v := 1) hx hb dL_law_1109 (by decide) ?_
  refine lv_iadd hx hb dL_law_1110 ?_
  refine va_sld hx hb hX hbl hbA hw.2.2.2.1 (sc_in (j := 1) (J := 1) (by omega) (by decide) (by decide) (by omega)) dL_law_1111 ?_
  refine W.eq (g2 := F0 m 1112 ls [.int (xs (6 * k + 1)), .ref aM]) (by rw [sc_ix (J := 1) (by omega) (by decide) (by decide)]) ?_
  obtain ⟨sA, dd, y1, y2, y3, y4, y5⟩ := hDY
  refine t_calli (va_runV (As := [.int (xs (6 * k + 1))]) (rest := []) ⟨hx, hb, hml, hown, hts⟩ (t_X12_back_x l dC dI tys κ B w1 hw.2.2.2.2 aM kM (xs (6 * k + 1)) sA y2 y1 dd y4 y5 y3 hMX H.size) (cwV 1 hts (gUV tw_1749 tw_1750 tw_1751 tw_13 tw_1752) rfl rfl rfl (by decide +kernel) ⟨(Nat.le_of_ble_eq_true rfl), (Nat.le_of_ble_eq_true rfl)⟩) ⟨cPre.blind, t_recv hw (ci := 12) kM rfl rfl, cPre.use hw.2.1 hw.1 hw.2.2.1 hE⟩ rfl rfl hl.1 rfl (lv_room (Nat.le_of_ble_eq_true rfl)) dL_law_1112 ⟨by show _ ≤ 600000; omega, by show _ ≤ 7302250; omega⟩) hw hA (fun _ _ h => h.2.2.1) (fun v1112 w2 H locs hp hw => ?_)
  obtain ⟨_, _, _, hm, ⟨d1, l1, h1, e1⟩, g_aM⟩ := hp
  have hRT := hRT.sm hm (by decide) (by decide)
  have hDY : DY κ w2 aM := ⟨sA, d1, hm.1 _ _ _ _ y1 (by decide), y2, e1, l1, h1⟩
  obtain ⟨z, zs, ns, hBX, hMX⟩ := back_both g_aX hm (by decide) (by decide) g_aM
  refine lv_pop hx hb dL_law_1115 rfl ?_
  refine lv_goto (tgt := 1119) hx hb dL_law_1116 (by decide) ?_
  exact law_next C0 A hAe aX aM k cs sl hk hkk next H locs ls (by omega) (by omega) ⟨tys, κ, B, w2, z, zs, ns, hw, kX, kM, hBX, hMX, hRT, hDY, hl⟩
set_option maxHeartbeats 4000000 in
set_option maxRecDepth 100000 in
theorem law_case_out {p : Program} {l : Launch} {e : Env} {s : State} {m : MethodId} {below : List Frame} {meth : Method} {c : Code} {dC : Nat → ClassId} {dI : Nat → Nat → Nat} {b L : Nat} {xs : Nat → Int32} {aK aV : Nat → Nat} (C0 : lw_At p s m meth c b L xs) (hE : gE s) (A : Nat → Prop) (hAe : A = fun q : Nat => s.heap.size ≤ q) (hStr : gS aK aV A s s.heap) (hR : gR aK s) (aX aM k cs sl : Nat) (hk : 6 * k + 6 ≤ L) (hkk : k ≤ 512) (hcs : cs + 11 ≤ 600000) (hsl : sl + 200 ≤ 7302250) (next : ∀ (H : Heap) (locs : List Loc) (ls : Array Slot), LInv (dC, dI) A s b aX aM (k + 1) H locs ls → W p l e room_1 s m #[Value.ref b] below meth c H locs (cs + 11) (sl + 200) (lw_Z below #[Value.ref b] s) (F0 m 18 ls [])) (H : Heap) (locs : List Loc) (ls : Array Slot) (hI : LInv (dC, dI) A s b aX aM k H locs ls) : W p l e room_1 s m #[Value.ref b] below meth c H locs cs sl (lw_Z below #[Value.ref b] s) (F0 m 1119 ls []) := by
  obtain ⟨hx, hb, hr, hml, hown, hts0, hX, hbl, hlocks, hgv⟩ := id C0
  have hts : ∀ w ∈ gT, w.before #[Value.ref b] s = true := fun w h => hts0 w (gT_sub h)
  have hA : ∀ q : Nat, s.heap.size ≤ q → A q := by rw [hAe]; exact fun _ h => h
  have hbA : ¬ A b := by rw [hAe]; exact Nat.not_le.mpr hbl
  exact law_next C0 A hAe aX aM k cs sl hk hkk next H locs ls (Nat.le_add_right _ _) (Nat.le_add_right _ _) hI
