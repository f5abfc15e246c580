theorem ts_7_10 : Cond.selects "BoyBishopModel" ⟨"BoyBishopModel", "isRest", "(IIII)Z"⟩ ⟨"BoyBishopModel", "isRest", "(IIII)Z"⟩ ∈ gT := gT_in (List.mem_append_left _ (List.mem_map.mpr ⟨(⟨"BoyBishopModel", "isRest", "(IIII)Z"⟩, 38), (List.mem_append_right _ (List.mem_append_right _ (List.mem_append_right _ (List.mem_append_right _ (List.mem_append_right _ (List.mem_append_right _ (List.mem_append_right _ (List.mem_append_left _ (List.mem_of_getElem? (i := 10) rfl))))))))), rfl⟩)) rfl
theorem ts_7_15 : Cond.selects "BoyBishopModel" ⟨"BoyBishopModel", "fillsFits", "()V"⟩ ⟨"BoyBishopModel", "fillsFits", "()V"⟩ ∈ gT := gT_in (List.mem_append_left _ (List.mem_map.mpr ⟨(⟨"BoyBishopModel", "fillsFits", "()V"⟩, 38), (List.mem_append_right _ (List.mem_append_right _ (List.mem_append_right _ (List.mem_append_right _ (List.mem_append_right _ (List.mem_append_right _ (List.mem_append_right _ (List.mem_append_left _ (List.mem_of_getElem? (i := 15) rfl))))))))), rfl⟩)) rfl
theorem ts_7_2 : Cond.selects "BoyBishopModel" ⟨"BoyBishopModel", "fillsWanted", "()V"⟩ ⟨"BoyBishopModel", "fillsWanted", "()V"⟩ ∈ gT := gT_in (List.mem_append_left _ (List.mem_map.mpr ⟨(⟨"BoyBishopModel", "fillsWanted", "()V"⟩, 38), (List.mem_append_right _ (List.mem_append_right _ (List.mem_append_right _ (List.mem_append_right _ (List.mem_append_right _ (List.mem_append_right _ (List.mem_append_right _ (List.mem_append_left _ (List.mem_of_getElem? (i := 2) rfl))))))))), rfl⟩)) rfl
theorem ts_7_3 : Cond.selects "BoyBishopModel" ⟨"BoyBishopModel", "byPoints", "()I"⟩ ⟨"BoyBishopModel", "byPoints", "()I"⟩ ∈ gT := gT_in (List.mem_append_left _ (List.mem_map.mpr ⟨(⟨"BoyBishopModel", "byPoints", "()I"⟩, 38), (List.mem_append_right _ (List.mem_append_right _ (List.mem_append_right _ (List.mem_append_right _ (List.mem_append_right _ (List.mem_append_right _ (List.mem_append_right _ (List.mem_append_left _ (List.mem_of_getElem? (i := 3) rfl))))))))), rfl⟩)) rfl
theorem ts_7_6 : Cond.selects "BoyBishopModel" ⟨"BoyBishopModel", "byLast", "()I"⟩ ⟨"BoyBishopModel", "byLast", "()I"⟩ ∈ gT := gT_in (List.mem_append_left _ (List.mem_map.mpr ⟨(⟨"BoyBishopModel", "byLast", "()I"⟩, 38), (List.mem_append_right _ (List.mem_append_right _ (List.mem_append_right _ (List.mem_append_right _ (List.mem_append_right _ (List.mem_append_right _ (List.mem_append_right _ (List.mem_append_left _ (List.mem_of_getElem? (i := 6) rfl))))))))), rfl⟩)) rfl
theorem ts_7_8 : Cond.selects "BoyBishopModel" ⟨"BoyBishopModel", "beatsEach", "(I)Z"⟩ ⟨"BoyBishopModel", "beatsEach", "(I)Z"⟩ ∈ gT := gT_in (List.mem_append_left _ (List.mem_map.mpr ⟨(⟨"BoyBishopModel", "beatsEach", "(I)Z"⟩, 38), (List.mem_append_right _ (List.mem_append_right _ (List.mem_append_right _ (List.mem_append_right _ (List.mem_append_right _ (List.mem_append_right _ (List.mem_append_right _ (List.mem_append_left _ (List.mem_of_getElem? (i := 8) rfl))))))))), rfl⟩)) rfl
theorem ts_8_0 : Cond.selects "BoyBishopModel" ⟨"BoyBishopModel", "alikeAt", "(I)I"⟩ ⟨"BoyBishopModel", "alikeAt", "(I)I"⟩ ∈ gT := gT_in (List.mem_append_left _ (List.mem_map.mpr ⟨(⟨"BoyBishopModel", "alikeAt", "(I)I"⟩, 38), (List.mem_append_right _ (List.mem_append_right _ (List.mem_append_right _ (List.mem_append_right _ (List.mem_append_right _ (List.mem_append_right _ (List.mem_append_right _ (List.mem_append_right _ (List.mem_of_getElem? (i := 0) rfl))))))))), rfl⟩)) rfl
theorem tw_1614 : (Jvm.Cond.methodLink "BoyBishopModel" (415 : Nat) ({ cls := "BoyBishopModel", name := "fillsWanted", desc := "()V" } : Jvm.MethodName)) ∈ gT := gT_in (List.mem_append_right _ (List.mem_append_right _ (List.mem_append_right _ (List.mem_append_right _ (List.mem_append_right _ (List.mem_append_right _ (List.mem_append_right _ (List.mem_append_left _ (List.mem_of_getElem? (i := 174) rfl))))))))) rfl
theorem tw_1616 : (Jvm.Cond.instanceMethod ({ cls := "BoyBishopModel", name := "fillsWanted", desc := "()V" } : Jvm.MethodName)) ∈ gT := gT_in (List.mem_append_right _ (List.mem_append_right _ (List.mem_append_right _ (List.mem_append_right _ (List.mem_append_right _ (List.mem_append_right _ (List.mem_append_right _ (List.mem_append_left _ (List.mem_of_getElem? (i := 176) rfl))))))))) rfl
theorem tw_1617 : (Jvm.Cond.code ({ cls := "BoyBishopModel", name := "fillsWanted", desc := "()V" } : Jvm.MethodName) prog_14_method_91_code (3 : Nat) (Option.none : Option Jvm.ClassFile.FieldType)) ∈ gT := gT_in (List.mem_append_right _ (List.mem_append_right _ (List.mem_append_right _ (List.mem_append_right _ (List.mem_append_right _ (List.mem_append_right _ (List.mem_append_right _ (List.mem_append_left _ (List.mem_of_getElem? (i := 177) rfl))))))))) rfl
theorem tw_1618 : (Jvm.Cond.methodLink "BoyBishopModel" (418 : Nat) ({ cls := "BoyBishopModel", name := "byPoints", desc := "()I" } : Jvm.MethodName)) ∈ gT := gT_in (List.mem_append_right _ (List.mem_append_right _ (List.mem_append_right _ (List.mem_append_right _ (List.mem_append_right _ (List.mem_append_right _ (List.mem_append_right _ (List.mem_append_left _ (List.mem_of_getElem? (i := 178) rfl))))))))) rfl
theorem tw_1620 : (Jvm.Cond.instanceMethod ({ cls := "BoyBishopModel", name := "byPoints", desc := "()I" } : Jvm.MethodName)) ∈ gT := gT_in (List.mem_append_right _ (List.mem_append_right _ (List.mem_append_right _ (List.mem_append_right _ (List.mem_append_right _ (List.mem_append_right _ (List.mem_append_right _ (List.mem_append_left _ (List.mem_of_getElem? (i := 180) rfl))))))))) rfl
theorem tw_1621 : (Jvm.Cond.code ({ cls := "BoyBishopModel", name := "byPoints", desc := "()I" } : Jvm.MethodName) prog_14_method_94_code (3 : Nat) (Option.some Jvm.ClassFile.FieldType.int)) ∈ gT := gT_in (List.mem_append_right _ (List.mem_append_right _ (List.mem_append_right _ (List.mem_append_right _ (List.mem_append_right _ (List.mem_append_right _ (List.mem_append_right _ (List.mem_append_left _ (List.mem_of_getElem? (i := 181) rfl))))))))) rfl
theorem tw_1630 : (Jvm.Cond.methodLink "BoyBishopModel" (421 : Nat) ({ cls := "BoyBishopModel", name := "byLast", desc := "()I" } : Jvm.MethodName)) ∈ gT := gT_in (List.mem_append_right _ (List.mem_append_right _ (List.mem_append_right _ (List.mem_append_right _ (List.mem_append_right _ (List.mem_append_right _ (List.mem_append_right _ (List.mem_append_left _ (List.mem_of_getElem? (i := 190) rfl))))))))) rfl
theorem tw_1632 : (Jvm.Cond.instanceMethod ({ cls := "BoyBishopModel", name := "byLast", desc := "()I" } : Jvm.MethodName)) ∈ gT := gT_in (List.mem_append_right _ (List.mem_append_right _ (List.mem_append_right _ (List.mem_append_right _ (List.mem_append_right _ (List.mem_append_right _ (List.mem_append_right _ (List.mem_append_left _ (List.mem_of_getElem? (i := 192) rfl))))))))) rfl
theorem tw_1633 : (Jvm.Cond.code ({ cls := "BoyBishopModel", name := "byLast", desc := "()I" } : Jvm.MethodName) prog_14_method_97_code (7 : Nat) (Option.some Jvm.ClassFile.FieldType.int)) ∈ gT := gT_in (List.mem_append_right _ (List.mem_append_right _ (List.mem_append_right _ (List.mem_append_right _ (List.mem_append_right _ (List.mem_append_right _ (List.mem_append_right _ (List.mem_append_left _ (List.mem_of_getElem? (i := 193) rfl))))))))) rfl
theorem tw_1644 : (Jvm.Cond.methodLink "BoyBishopModel" (424 : Nat) ({ cls := "BoyBishopModel", name := "beatsEach", desc := "(I)Z" } : Jvm.MethodName)) ∈ gT := gT_in (List.mem_append_right _ (List.mem_append_right _ (List.mem_append_right _ (List.mem_append_right _ (List.mem_append_right _ (List.mem_append_right _ (List.mem_append_right _ (List.mem_append_left _ (List.mem_of_getElem? (i := 204) rfl))))))))) rfl
theorem tw_1646 : (Jvm.Cond.instanceMethod ({ cls := "BoyBishopModel", name := "beatsEach", desc := "(I)Z" } : Jvm.MethodName)) ∈ gT := gT_in (List.mem_append_right _ (List.mem_append_right _ (List.mem_append_right _ (List.mem_append_right _ (List.mem_append_right _ (List.mem_append_right _ (List.mem_append_right _ (List.mem_append_left _ (List.mem_of_getElem? (i := 206) rfl))))))))) rfl
theorem tw_1647 : (Jvm.Cond.code ({ cls := "BoyBishopModel", name := "beatsEach", desc := "(I)Z" } : Jvm.MethodName) prog_14_method_95_code (5 : Nat) (Option.some Jvm.ClassFile.FieldType.boolean)) ∈ gT := gT_in (List.mem_append_right _ (List.mem_append_right _ (List.mem_append_right _ (List.mem_append_right _ (List.mem_append_right _ (List.mem_append_right _ (List.mem_append_right _ (List.mem_append_left _ (List.mem_of_getElem? (i := 207) rfl))))))))) rfl
theorem tw_1664 : (Jvm.Cond.methodLink "BoyBishopModel" (434 : Nat) ({ cls := "BoyBishopModel", name := "isRest", desc := "(IIII)Z" } : Jvm.MethodName)) ∈ gT := gT_in (List.mem_append_right _ (List.mem_append_right _ (List.mem_append_right _ (List.mem_append_right _ (List.mem_append_right _ (List.mem_append_right _ (List.mem_append_right _ (List.mem_append_left _ (List.mem_of_getElem? (i := 224) rfl))))))))) rfl
theorem tw_1666 : (Jvm.Cond.instanceMethod ({ cls := "BoyBishopModel", name := "isRest", desc := "(IIII)Z" } : Jvm.MethodName)) ∈ gT := gT_in (List.mem_append_right _ (List.mem_append_right _ (List.mem_append_right _ (List.mem_append_right _ (List.mem_append_right _ (List.mem_append_right _ (List.mem_append_right _ (List.mem_append_left _ (List.mem_of_getElem? (i := 226) rfl))))))))) rfl
theorem tw_1667 : (Jvm.Cond.code ({ cls := "BoyBishopModel", name := "isRest", desc := "(IIII)Z" } : Jvm.MethodName) prog_14_method_103_code (6 : Nat) (Option.some Jvm.ClassFile.FieldType.boolean)) ∈ gT := gT_in (List.mem_append_right _ (List.mem_append_right _ (List.mem_append_right _ (List.mem_append_right _ (List.mem_append_right _ (List.mem_append_right _ (List.mem_append_right _ (List.mem_append_left _ (List.mem_of_getElem? (i := 227) rfl))))))))) rfl
theorem tw_1708 : (Jvm.Cond.methodLink "BoyBishopModel" (450 : Nat) ({ cls := "BoyBishopModel", name := "fillsFits", desc := "()V" } : Jvm.MethodName)) ∈ gT := gT_in (List.mem_append_right _ (List.mem_append_right _ (List.mem_append_right _ (List.mem_append_right _ (List.mem_append_right _ (List.mem_append_right _ (List.mem_append_right _ (List.mem_append_right _ (List.mem_of_getElem? (i := 28) rfl))))))))) rfl
theorem tw_1710 : (Jvm.Cond.instanceMethod ({ cls := "BoyBishopModel", name := "fillsFits", desc := "()V" } : Jvm.MethodName)) ∈ gT := gT_in (List.mem_append_right _ (List.mem_append_right _ (List.mem_append_right _ (List.mem_append_right _ (List.mem_append_right _ (List.mem_append_right _ (List.mem_append_right _ (List.mem_append_right _ (List.mem_of_getElem? (i := 30) rfl))))))))) rfl
theorem tw_1711 : (Jvm.Cond.code ({ cls := "BoyBishopModel", name := "fillsFits", desc := "()V" } : Jvm.MethodName) prog_14_method_114_code (5 : Nat) (Option.none : Option Jvm.ClassFile.FieldType)) ∈ gT := gT_in (List.mem_append_right _ (List.mem_append_right _ (List.mem_append_right _ (List.mem_append_right _ (List.mem_append_right _ (List.mem_append_right _ (List.mem_append_right _ (List.mem_append_right _ (List.mem_of_getElem? (i := 31) rfl))))))))) rfl
theorem tw_1719 : (Jvm.Cond.methodLink "BoyBishopModel" (453 : Nat) ({ cls := "BoyBishopModel", name := "alikeAt", desc := "(I)I" } : Jvm.MethodName)) ∈ gT := gT_in (List.mem_append_right _ (List.mem_append_right _ (List.mem_append_right _ (List.mem_append_right _ (List.mem_append_right _ (List.mem_append_right _ (List.mem_append_right _ (List.mem_append_right _ (List.mem_of_getElem? (i := 39) rfl))))))))) rfl
theorem tw_1721 : (Jvm.Cond.instanceMethod ({ cls := "BoyBishopModel", name := "alikeAt", desc := "(I)I" } : Jvm.MethodName)) ∈ gT := gT_in (List.mem_append_right _ (List.mem_append_right _ (List.mem_append_right _ (List.mem_append_right _ (List.mem_append_right _ (List.mem_append_right _ (List.mem_append_right _ (List.mem_append_right _ (List.mem_of_getElem? (i := 41) rfl))))))))) rfl
theorem tw_1722 : (Jvm.Cond.code ({ cls := "BoyBishopModel", name := "alikeAt", desc := "(I)I" } : Jvm.MethodName) prog_14_method_116_code (6 : Nat) (Option.some Jvm.ClassFile.FieldType.int)) ∈ gT := gT_in (List.mem_append_right _ (List.mem_append_right _ (List.mem_append_right _ (List.mem_append_right _ (List.mem_append_right _ (List.mem_append_right _ (List.mem_append_right _ (List.mem_append_right _ (List.mem_of_getElem? (i := 42) rfl))))))))) rfl
theorem dX12_least_0 : decode cX12_least 0 = .ok (.aload_n 0, 1) := by decide +kernel
theorem dX12_least_1 : decode cX12_least 1 = .ok (.iload_n 1, 1) := by decide +kernel
theorem dX12_least_2 : decode cX12_least 2 = .ok (.invokevirtual 314, 3) := by decide +kernel
theorem dX12_least_5 : decode cX12_least 5 = .ok (.ifCond .ne 5, 3) := by decide +kernel
theorem dX12_least_8 : decode cX12_least 8 = .ok (.iconst (-1), 1) := by decide +kernel
theorem dX12_least_9 : decode cX12_least 9 = .ok (.ireturn, 1) := by decide +kernel
theorem dX12_least_10 : decode cX12_least 10 = .ok (.aload_n 0, 1) := by decide +kernel
theorem dX12_least_11 : decode cX12_least 11 = .ok (.iload_n 1, 1) := by decide +kernel
theorem dX12_least_12 : decode cX12_least 12 = .ok (.iconst 1, 1) := by decide +kernel
theorem dX12_least_13 : decode cX12_least 13 = .ok (.invokevirtual 304, 3) := by decide +kernel
theorem dX12_least_16 : decode cX12_least 16 = .ok (.istore_n 2, 1) := by decide +kernel
theorem dX12_least_17 : decode cX12_least 17 = .ok (.bipush (-2), 2) := by decide +kernel
theorem dX12_least_19 : decode cX12_least 19 = .ok (.istore_n 3, 1) := by decide +kernel
theorem dX12_least_20 : decode cX12_least 20 = .ok (.bipush 20, 2) := by decide +kernel
theorem dX12_least_22 : decode cX12_least 22 = .ok (.istore 4, 2) := by decide +kernel
theorem dX12_least_24 : decode cX12_least 24 = .ok (.iload 4, 2) := by decide +kernel
theorem dX12_least_26 : decode cX12_least 26 = .ok (.ifCond .lt 35, 3) := by decide +kernel
theorem dX12_least_29 : decode cX12_least 29 = .ok (.aload_n 0, 1) := by decide +kernel
theorem dX12_least_30 : decode cX12_least 30 = .ok (.getfield 39, 3) := by decide +kernel
theorem dX12_least_33 : decode cX12_least 33 = .ok (.bipush 16, 2) := by decide +kernel
theorem dX12_least_35 : decode cX12_least 35 = .ok (.iconst 3, 1) := by decide +kernel
theorem dX12_least_36 : decode cX12_least 36 = .ok (.iload_n 1, 1) := by decide +kernel
theorem dX12_least_37 : decode cX12_least 37 = .ok (.imul, 1) := by decide +kernel
theorem dX12_least_38 : decode cX12_least 38 = .ok (.iadd, 1) := by decide +kernel
theorem dX12_least_39 : decode cX12_least 39 = .ok (.iconst 1, 1) := by decide +kernel
theorem dX12_least_40 : decode cX12_least 40 = .ok (.iadd, 1) := by decide +kernel
theorem dX12_least_41 : decode cX12_least 41 = .ok (.iload 4, 2) := by decide +kernel
theorem dX12_least_43 : decode cX12_least 43 = .ok (.iastore, 1) := by decide +kernel
theorem dX12_least_44 : decode cX12_least 44 = .ok (.aload_n 0, 1) := by decide +kernel
theorem dX12_least_45 : decode cX12_least 45 = .ok (.invokevirtual 355, 3) := by decide +kernel
theorem dX12_least_48 : decode cX12_least 48 = .ok (.iload_n 1, 1) := by decide +kernel
theorem dX12_least_49 : decode cX12_least 49 = .ok (.if_icmp .ne 6, 3) := by decide +kernel
theorem dX12_least_52 : decode cX12_least 52 = .ok (.iload 4, 2) := by decide +kernel
theorem dX12_least_54 : decode cX12_least 54 = .ok (.istore_n 3, 1) := by decide +kernel
theorem dX12_least_55 : decode cX12_least 55 = .ok (.iinc 4 (-1), 3) := by decide +kernel
theorem dX12_least_58 : decode cX12_least 58 = .ok (.goto (-34), 3) := by decide +kernel
theorem dX12_least_61 : decode cX12_least 61 = .ok (.aload_n 0, 1) := by decide +kernel
theorem dX12_least_62 : decode cX12_least 62 = .ok (.getfield 39, 3) := by decide +kernel
theorem dX12_least_65 : decode cX12_least 65 = .ok (.bipush 16, 2) := by decide +kernel
theorem dX12_least_67 : decode cX12_least 67 = .ok (.iconst 3, 1) := by decide +kernel
theorem dX12_least_68 : decode cX12_least 68 = .ok (.iload_n 1, 1) := by decide +kernel
theorem dX12_least_69 : decode cX12_least 69 = .ok (.imul, 1) := by decide +kernel
theorem dX12_least_70 : decode cX12_least 70 = .ok (.iadd, 1) := by decide +kernel
theorem dX12_least_71 : decode cX12_least 71 = .ok (.iconst 1, 1) := by decide +kernel
theorem dX12_least_72 : decode cX12_least 72 = .ok (.iadd, 1) := by decide +kernel
theorem dX12_least_73 : decode cX12_least 73 = .ok (.iload_n 2, 1) := by decide +kernel
theorem dX12_least_74 : decode cX12_least 74 = .ok (.iastore, 1) := by decide +kernel
theorem dX12_least_75 : decode cX12_least 75 = .ok (.iload_n 3, 1) := by decide +kernel
theorem dX12_least_76 : decode cX12_least 76 = .ok (.ireturn, 1) := by decide +kernel
theorem dX12_look_0 : decode cX12_look 0 = .ok (.aload_n 0, 1) := by decide +kernel
theorem dX12_look_1 : decode cX12_look 1 = .ok (.invokevirtual 379, 3) := by decide +kernel
theorem dX12_look_4 : decode cX12_look 4 = .ok (.ifCond .eq 13, 3) := by decide +kernel
theorem dX12_look_7 : decode cX12_look 7 = .ok (.iload_n 1, 1) := by decide +kernel
theorem dX12_look_8 : decode cX12_look 8 = .ok (.i2l, 1) := by decide +kernel
theorem dX12_look_9 : decode cX12_look 9 = .ok (.lconst 0, 1) := by decide +kernel
theorem dX12_look_10 : decode cX12_look 10 = .ok (.lconst 1, 1) := by decide +kernel
theorem dX12_look_11 : decode cX12_look 11 = .ok (.invokestatic 121, 3) := by decide +kernel
theorem dX12_look_14 : decode cX12_look 14 = .ok (.ifCond .ne 5, 3) := by decide +kernel
theorem dX12_look_17 : decode cX12_look 17 = .ok (.iconst (-1), 1) := by decide +kernel
theorem dX12_look_18 : decode cX12_look 18 = .ok (.ireturn, 1) := by decide +kernel
theorem dX12_look_19 : decode cX12_look 19 = .ok (.aload_n 0, 1) := by decide +kernel
theorem dX12_look_20 : decode cX12_look 20 = .ok (.invokevirtual 450, 3) := by decide +kernel
theorem dX12_look_23 : decode cX12_look 23 = .ok (.iconst 0, 1) := by decide +kernel
theorem dX12_look_24 : decode cX12_look 24 = .ok (.istore_n 2, 1) := by decide +kernel
theorem dX12_look_25 : decode cX12_look 25 = .ok (.iconst 1, 1) := by decide +kernel
theorem dX12_look_26 : decode cX12_look 26 = .ok (.istore_n 3, 1) := by decide +kernel
theorem dX12_look_27 : decode cX12_look 27 = .ok (.iload_n 3, 1) := by decide +kernel
theorem dX12_look_28 : decode cX12_look 28 = .ok (.bipush 60, 2) := by decide +kernel
theorem dX12_look_30 : decode cX12_look 30 = .ok (.if_icmp .gt 24, 3) := by decide +kernel
theorem dX12_look_33 : decode cX12_look 33 = .ok (.aload_n 0, 1) := by decide +kernel
theorem dX12_look_34 : decode cX12_look 34 = .ok (.iload_n 3, 1) := by decide +kernel
theorem dX12_look_35 : decode cX12_look 35 = .ok (.invokevirtual 453, 3) := by decide +kernel
theorem dX12_look_38 : decode cX12_look 38 = .ok (.aload_n 0, 1) := by decide +kernel
theorem dX12_look_39 : decode cX12_look 39 = .ok (.iload_n 2, 1) := by decide +kernel
theorem dX12_look_40 : decode cX12_look 40 = .ok (.invokevirtual 453, 3) := by decide +kernel
theorem dX12_look_43 : decode cX12_look 43 = .ok (.if_icmp .ge 5, 3) := by decide +kernel
theorem dX12_look_46 : decode cX12_look 46 = .ok (.iload_n 3, 1) := by decide +kernel
theorem dX12_look_47 : decode cX12_look 47 = .ok (.istore_n 2, 1) := by decide +kernel
theorem dX12_look_48 : decode cX12_look 48 = .ok (.iinc 3 1, 3) := by decide +kernel
theorem dX12_look_51 : decode cX12_look 51 = .ok (.goto (-24), 3) := by decide +kernel
theorem dX12_look_54 : decode cX12_look 54 = .ok (.aload_n 0, 1) := by decide +kernel
theorem dX12_look_55 : decode cX12_look 55 = .ok (.iload_n 2, 1) := by decide +kernel
theorem dX12_look_56 : decode cX12_look 56 = .ok (.invokevirtual 453, 3) := by decide +kernel
theorem dX12_look_59 : decode cX12_look 59 = .ok (.ifCond .ne 8, 3) := by decide +kernel
theorem dX12_look_62 : decode cX12_look 62 = .ok (.bipush (-2), 2) := by decide +kernel
theorem dX12_look_64 : decode cX12_look 64 = .ok (.goto 16, 3) := by decide +kernel
theorem dX12_look_67 : decode cX12_look 67 = .ok (.iload_n 1, 1) := by decide +kernel
theorem dX12_look_68 : decode cX12_look 68 = .ok (.ifCond .ne 7, 3) := by decide +kernel
theorem dX12_look_71 : decode cX12_look 71 = .ok (.iload_n 2, 1) := by decide +kernel
theorem dX12_look_72 : decode cX12_look 72 = .ok (.goto 8, 3) := by decide +kernel
theorem dX12_look_75 : decode cX12_look 75 = .ok (.aload_n 0, 1) := by decide +kernel
theorem dX12_look_76 : decode cX12_look 76 = .ok (.iload_n 2, 1) := by decide +kernel
theorem dX12_look_77 : decode cX12_look 77 = .ok (.invokevirtual 453, 3) := by decide +kernel
theorem dX12_look_80 : decode cX12_look 80 = .ok (.ireturn, 1) := by decide +kernel
theorem dX12_method_0 : decode cX12_method 0 = .ok (.aload_n 0, 1) := by decide +kernel
theorem dX12_method_1 : decode cX12_method 1 = .ok (.invokevirtual 379, 3) := by decide +kernel
theorem dX12_method_4 : decode cX12_method 4 = .ok (.ifCond .eq 15, 3) := by decide +kernel
theorem dX12_method_7 : decode cX12_method 7 = .ok (.iload_n 1, 1) := by decide +kernel
theorem dX12_method_8 : decode cX12_method 8 = .ok (.i2l, 1) := by decide +kernel
theorem dX12_method_9 : decode cX12_method 9 = .ok (.lconst 0, 1) := by decide +kernel
theorem dX12_method_10 : decode cX12_method 10 = .ok (.ldc2_w 392, 3) := by decide +kernel
theorem dX12_method_13 : decode cX12_method 13 = .ok (.invokestatic 121, 3) := by decide +kernel
theorem dX12_method_16 : decode cX12_method 16 = .ok (.ifCond .ne 6, 3) := by decide +kernel
theorem dX12_method_19 : decode cX12_method 19 = .ok (.bipush (-2), 2) := by decide +kernel
theorem dX12_method_21 : decode cX12_method 21 = .ok (.ireturn, 1) := by decide +kernel
theorem dX12_method_22 : decode cX12_method 22 = .ok (.aload_n 0, 1) := by decide +kernel
theorem dX12_method_23 : decode cX12_method 23 = .ok (.invokevirtual 415, 3) := by decide +kernel
theorem dX12_method_26 : decode cX12_method 26 = .ok (.iload_n 1, 1) := by decide +kernel
theorem dX12_method_27 : decode cX12_method 27 = .ok (.ifCond .ne 8, 3) := by decide +kernel
theorem dX12_method_30 : decode cX12_method 30 = .ok (.aload_n 0, 1) := by decide +kernel
theorem dX12_method_31 : decode cX12_method 31 = .ok (.invokevirtual 418, 3) := by decide +kernel
theorem dX12_method_34 : decode cX12_method 34 = .ok (.ireturn, 1) := by decide +kernel
theorem dX12_method_35 : decode cX12_method 35 = .ok (.iload_n 1, 1) := by decide +kernel
theorem dX12_method_36 : decode cX12_method 36 = .ok (.iconst 2, 1) := by decide +kernel
theorem dX12_method_37 : decode cX12_method 37 = .ok (.if_icmp .ne 8, 3) := by decide +kernel
theorem dX12_method_40 : decode cX12_method 40 = .ok (.aload_n 0, 1) := by decide +kernel
theorem dX12_method_41 : decode cX12_method 41 = .ok (.invokevirtual 421, 3) := by decide +kernel
theorem dX12_method_44 : decode cX12_method 44 = .ok (.ireturn, 1) := by decide +kernel
theorem dX12_method_45 : decode cX12_method 45 = .ok (.iconst 0, 1) := by decide +kernel
theorem dX12_method_46 : decode cX12_method 46 = .ok (.istore_n 2, 1) := by decide +kernel
theorem dX12_method_47 : decode cX12_method 47 = .ok (.iload_n 2, 1) := by decide +kernel
theorem dX12_method_48 : decode cX12_method 48 = .ok (.aload_n 0, 1) := by decide +kernel
theorem dX12_method_49 : decode cX12_method 49 = .ok (.getfield 39, 3) := by decide +kernel
theorem dX12_method_52 : decode cX12_method 52 = .ok (.iconst 3, 1) := by decide +kernel
theorem dX12_method_53 : decode cX12_method 53 = .ok (.iaload, 1) := by decide +kernel
theorem dX12_method_54 : decode cX12_method 54 = .ok (.if_icmp .ge 27, 3) := by decide +kernel
theorem dX12_method_57 : decode cX12_method 57 = .ok (.aload_n 0, 1) := by decide +kernel
theorem dX12_method_58 : decode cX12_method 58 = .ok (.iload_n 2, 1) := by decide +kernel
theorem dX12_method_59 : decode cX12_method 59 = .ok (.invokevirtual 314, 3) := by decide +kernel
theorem dX12_method_62 : decode cX12_method 62 = .ok (.ifCond .eq 13, 3) := by decide +kernel
theorem dX12_method_65 : decode cX12_method 65 = .ok (.aload_n 0, 1) := by decide +kernel
theorem dX12_method_66 : decode cX12_method 66 = .ok (.iload_n 2, 1) := by decide +kernel
theorem dX12_method_67 : decode cX12_method 67 = .ok (.invokevirtual 424, 3) := by decide +kernel
theorem dX12_method_70 : decode cX12_method 70 = .ok (.ifCond .eq 5, 3) := by decide +kernel
theorem dX12_method_73 : decode cX12_method 73 = .ok (.iload_n 2, 1) := by decide +kernel
theorem dX12_method_74 : decode cX12_method 74 = .ok (.ireturn, 1) := by decide +kernel
theorem dX12_method_75 : decode cX12_method 75 = .ok (.iinc 2 1, 3) := by decide +kernel
theorem dX12_method_78 : decode cX12_method 78 = .ok (.goto (-31), 3) := by decide +kernel
theorem dX12_method_81 : decode cX12_method 81 = .ok (.iconst (-1), 1) := by decide +kernel
theorem dX12_method_82 : decode cX12_method 82 = .ok (.ireturn, 1) := by decide +kernel
theorem dX12_rests_0 : decode cX12_rests 0 = .ok (.aload_n 0, 1) := by decide +kernel
theorem dX12_rests_1 : decode cX12_rests 1 = .ok (.iload_n 1, 1) := by decide +kernel
theorem dX12_rests_2 : decode cX12_rests 2 = .ok (.invokevirtual 314, 3) := by decide +kernel
theorem dX12_rests_5 : decode cX12_rests 5 = .ok (.ifCond .eq 28, 3) := by decide +kernel
theorem dX12_rests_8 : decode cX12_rests 8 = .ok (.aload_n 0, 1) := by decide +kernel
theorem dX12_rests_9 : decode cX12_rests 9 = .ok (.iload_n 2, 1) := by decide +kernel
theorem dX12_rests_10 : decode cX12_rests 10 = .ok (.invokevirtual 314, 3) := by decide +kernel
theorem dX12_rests_13 : decode cX12_rests 13 = .ok (.ifCond .eq 20, 3) := by decide +kernel
theorem dX12_rests_16 : decode cX12_rests 16 = .ok (.iload_n 1, 1) := by decide +kernel
theorem dX12_rests_17 : decode cX12_rests 17 = .ok (.iload_n 2, 1) := by decide +kernel
theorem dX12_rests_18 : decode cX12_rests 18 = .ok (.if_icmp .eq 15, 3) := by decide +kernel
theorem dX12_rests_21 : decode cX12_rests 21 = .ok (.iload_n 3, 1) := by decide +kernel
theorem dX12_rests_22 : decode cX12_rests 22 = .ok (.i2l, 1) := by decide +kernel
theorem dX12_rests_23 : decode cX12_rests 23 = .ok (.lconst 0, 1) := by decide +kernel
theorem dX12_rests_24 : decode cX12_rests 24 = .ok (.ldc2_w 392, 3) := by decide +kernel
theorem dX12_rests_27 : decode cX12_rests 27 = .ok (.invokestatic 121, 3) := by decide +kernel
theorem dX12_rests_30 : decode cX12_rests 30 = .ok (.ifCond .ne 5, 3) := by decide +kernel
theorem dX12_rests_33 : decode cX12_rests 33 = .ok (.iconst (-1), 1) := by decide +kernel
theorem dX12_rests_34 : decode cX12_rests 34 = .ok (.ireturn, 1) := by decide +kernel
theorem dX12_rests_35 : decode cX12_rests 35 = .ok (.aload_n 0, 1) := by decide +kernel
theorem dX12_rests_36 : decode cX12_rests 36 = .ok (.invokevirtual 394, 3) := by decide +kernel
theorem dX12_rests_39 : decode cX12_rests 39 = .ok (.iconst 0, 1) := by decide +kernel
theorem dX12_rests_40 : decode cX12_rests 40 = .ok (.istore 4, 2) := by decide +kernel
theorem dX12_rests_42 : decode cX12_rests 42 = .ok (.iload 4, 2) := by decide +kernel
theorem dX12_rests_44 : decode cX12_rests 44 = .ok (.bipush 25, 2) := by decide +kernel
theorem dX12_rests_46 : decode cX12_rests 46 = .ok (.if_icmp .ge 58, 3) := by decide +kernel
theorem dX12_rests_49 : decode cX12_rests 49 = .ok (.aload_n 0, 1) := by decide +kernel
theorem dX12_rests_50 : decode cX12_rests 50 = .ok (.getfield 39, 3) := by decide +kernel
theorem dX12_rests_53 : decode cX12_rests 53 = .ok (.bipush 16, 2) := by decide +kernel
theorem dX12_rests_55 : decode cX12_rests 55 = .ok (.iconst 3, 1) := by decide +kernel
theorem dX12_rests_56 : decode cX12_rests 56 = .ok (.iload_n 1, 1) := by decide +kernel
theorem dX12_rests_57 : decode cX12_rests 57 = .ok (.imul, 1) := by decide +kernel
theorem dX12_rests_58 : decode cX12_rests 58 = .ok (.iadd, 1) := by decide +kernel
theorem dX12_rests_59 : decode cX12_rests 59 = .ok (.iconst 1, 1) := by decide +kernel
theorem dX12_rests_60 : decode cX12_rests 60 = .ok (.iadd, 1) := by decide +kernel
theorem dX12_rests_61 : decode cX12_rests 61 = .ok (.iload 4, 2) := by decide +kernel
theorem dX12_rests_63 : decode cX12_rests 63 = .ok (.iconst 5, 1) := by decide +kernel
theorem dX12_rests_64 : decode cX12_rests 64 = .ok (.idiv, 1) := by decide +kernel
theorem dX12_rests_65 : decode cX12_rests 65 = .ok (.iconst 5, 1) := by decide +kernel
theorem dX12_rests_66 : decode cX12_rests 66 = .ok (.imul, 1) := by decide +kernel
theorem dX12_rests_67 : decode cX12_rests 67 = .ok (.iastore, 1) := by decide +kernel
theorem dX12_rests_68 : decode cX12_rests 68 = .ok (.aload_n 0, 1) := by decide +kernel
theorem dX12_rests_69 : decode cX12_rests 69 = .ok (.getfield 39, 3) := by decide +kernel
theorem dX12_rests_72 : decode cX12_rests 72 = .ok (.bipush 16, 2) := by decide +kernel
theorem dX12_rests_74 : decode cX12_rests 74 = .ok (.iconst 3, 1) := by decide +kernel
theorem dX12_rests_75 : decode cX12_rests 75 = .ok (.iload_n 2, 1) := by decide +kernel
theorem dX12_rests_76 : decode cX12_rests 76 = .ok (.imul, 1) := by decide +kernel
theorem dX12_rests_77 : decode cX12_rests 77 = .ok (.iadd, 1) := by decide +kernel
theorem dX12_rests_78 : decode cX12_rests 78 = .ok (.iconst 1, 1) := by decide +kernel
theorem dX12_rests_79 : decode cX12_rests 79 = .ok (.iadd, 1) := by decide +kernel
theorem dX12_rests_80 : decode cX12_rests 80 = .ok (.iload 4, 2) := by decide +kernel
theorem dX12_rests_82 : decode cX12_rests 82 = .ok (.iconst 5, 1) := by decide +kernel
theorem dX12_rests_83 : decode cX12_rests 83 = .ok (.irem, 1) := by decide +kernel
theorem dX12_rests_84 : decode cX12_rests 84 = .ok (.iconst 5, 1) := by decide +kernel
theorem dX12_rests_85 : decode cX12_rests 85 = .ok (.imul, 1) := by decide +kernel
theorem dX12_rests_86 : decode cX12_rests 86 = .ok (.iastore, 1) := by decide +kernel
theorem dX12_rests_87 : decode cX12_rests 87 = .ok (.aload_n 0, 1) := by decide +kernel
theorem dX12_rests_88 : decode cX12_rests 88 = .ok (.getfield 58, 3) := by decide +kernel
theorem dX12_rests_91 : decode cX12_rests 91 = .ok (.iload 4, 2) := by decide +kernel
theorem dX12_rests_93 : decode cX12_rests 93 = .ok (.aload_n 0, 1) := by decide +kernel
theorem dX12_rests_94 : decode cX12_rests 94 = .ok (.invokevirtual 355, 3) := by decide +kernel
theorem dX12_rests_97 : decode cX12_rests 97 = .ok (.iastore, 1) := by decide +kernel
theorem dX12_rests_98 : decode cX12_rests 98 = .ok (.iinc 4 1, 3) := by decide +kernel
theorem dX12_rests_101 : decode cX12_rests 101 = .ok (.goto (-59), 3) := by decide +kernel
theorem dX12_rests_104 : decode cX12_rests 104 = .ok (.aload_n 0, 1) := by decide +kernel
theorem dX12_rests_105 : decode cX12_rests 105 = .ok (.invokevirtual 397, 3) := by decide +kernel
theorem dX12_rests_108 : decode cX12_rests 108 = .ok (.iconst 0, 1) := by decide +kernel
theorem dX12_rests_109 : decode cX12_rests 109 = .ok (.istore 4, 2) := by decide +kernel
theorem dX12_rests_111 : decode cX12_rests 111 = .ok (.iconst (-1), 1) := by decide +kernel
theorem dX12_rests_112 : decode cX12_rests 112 = .ok (.istore 5, 2) := by decide +kernel
theorem dX12_rests_114 : decode cX12_rests 114 = .ok (.iconst 0, 1) := by decide +kernel
theorem dX12_rests_115 : decode cX12_rests 115 = .ok (.istore 6, 2) := by decide +kernel
theorem dX12_rests_117 : decode cX12_rests 117 = .ok (.iload 6, 2) := by decide +kernel
theorem dX12_rests_119 : decode cX12_rests 119 = .ok (.bipush 25, 2) := by decide +kernel
theorem dX12_rests_121 : decode cX12_rests 121 = .ok (.if_icmp .ge 41, 3) := by decide +kernel
theorem dX12_rests_124 : decode cX12_rests 124 = .ok (.aload_n 0, 1) := by decide +kernel
theorem dX12_rests_125 : decode cX12_rests 125 = .ok (.iload_n 1, 1) := by decide +kernel
theorem dX12_rests_126 : decode cX12_rests 126 = .ok (.iload_n 2, 1) := by decide +kernel
theorem dX12_rests_127 : decode cX12_rests 127 = .ok (.iload 6, 2) := by decide +kernel
theorem dX12_rests_129 : decode cX12_rests 129 = .ok (.iconst 5, 1) := by decide +kernel
theorem dX12_rests_130 : decode cX12_rests 130 = .ok (.idiv, 1) := by decide +kernel
theorem dX12_rests_131 : decode cX12_rests 131 = .ok (.iload 6, 2) := by decide +kernel
theorem dX12_rests_133 : decode cX12_rests 133 = .ok (.iconst 5, 1) := by decide +kernel
theorem dX12_rests_134 : decode cX12_rests 134 = .ok (.irem, 1) := by decide +kernel
theorem dX12_rests_135 : decode cX12_rests 135 = .ok (.invokevirtual 434, 3) := by decide +kernel
theorem dX12_rests_138 : decode cX12_rests 138 = .ok (.ifCond .ne 6, 3) := by decide +kernel
theorem dX12_rests_141 : decode cX12_rests 141 = .ok (.goto 15, 3) := by decide +kernel
theorem dX12_rests_144 : decode cX12_rests 144 = .ok (.iload 4, 2) := by decide +kernel
theorem dX12_rests_146 : decode cX12_rests 146 = .ok (.ifCond .ne 7, 3) := by decide +kernel
theorem dX12_rests_149 : decode cX12_rests 149 = .ok (.iload 6, 2) := by decide +kernel
theorem dX12_rests_151 : decode cX12_rests 151 = .ok (.istore 5, 2) := by decide +kernel
theorem dX12_rests_153 : decode cX12_rests 153 = .ok (.iinc 4 1, 3) := by decide +kernel
theorem dX12_rests_156 : decode cX12_rests 156 = .ok (.iinc 6 1, 3) := by decide +kernel
theorem dX12_rests_159 : decode cX12_rests 159 = .ok (.goto (-42), 3) := by decide +kernel
theorem dX12_rests_162 : decode cX12_rests 162 = .ok (.iload_n 3, 1) := by decide +kernel
theorem dX12_rests_163 : decode cX12_rests 163 = .ok (.ifCond .ne 6, 3) := by decide +kernel
theorem dX12_rests_166 : decode cX12_rests 166 = .ok (.iload 4, 2) := by decide +kernel
theorem dX12_rests_168 : decode cX12_rests 168 = .ok (.ireturn, 1) := by decide +kernel
theorem dX12_rests_169 : decode cX12_rests 169 = .ok (.iload 5, 2) := by decide +kernel
theorem dX12_rests_171 : decode cX12_rests 171 = .ok (.ifCond .ge 8, 3) := by decide +kernel
theorem dX12_rests_174 : decode cX12_rests 174 = .ok (.bipush (-2), 2) := by decide +kernel
theorem dX12_rests_176 : decode cX12_rests 176 = .ok (.goto 23, 3) := by decide +kernel
theorem dX12_rests_179 : decode cX12_rests 179 = .ok (.iload_n 3, 1) := by decide +kernel
theorem dX12_rests_180 : decode cX12_rests 180 = .ok (.iconst 1, 1) := by decide +kernel
theorem dX12_rests_181 : decode cX12_rests 181 = .ok (.if_icmp .ne 12, 3) := by decide +kernel
theorem dX12_rests_184 : decode cX12_rests 184 = .ok (.iload 5, 2) := by decide +kernel
theorem dX12_rests_186 : decode cX12_rests 186 = .ok (.iconst 5, 1) := by decide +kernel
theorem dX12_rests_187 : decode cX12_rests 187 = .ok (.idiv, 1) := by decide +kernel
theorem dX12_rests_188 : decode cX12_rests 188 = .ok (.iconst 5, 1) := by decide +kernel
theorem dX12_rests_189 : decode cX12_rests 189 = .ok (.imul, 1) := by decide +kernel
theorem dX12_rests_190 : decode cX12_rests 190 = .ok (.goto 9, 3) := by decide +kernel
theorem dX12_rests_193 : decode cX12_rests 193 = .ok (.iload 5, 2) := by decide +kernel
theorem dX12_rests_195 : decode cX12_rests 195 = .ok (.iconst 5, 1) := by decide +kernel
theorem dX12_rests_196 : decode cX12_rests 196 = .ok (.irem, 1) := by decide +kernel
theorem dX12_rests_197 : decode cX12_rests 197 = .ok (.iconst 5, 1) := by decide +kernel
theorem dX12_rests_198 : decode cX12_rests 198 = .ok (.imul, 1) := by decide +kernel
theorem dX12_rests_199 : decode cX12_rests 199 = .ok (.ireturn, 1) := by decide +kernel
theorem dX12_rule_0 : decode cX12_rule 0 = .ok (.aload_n 0, 1) := by decide +kernel
theorem dX12_rule_1 : decode cX12_rule 1 = .ok (.getfield 271, 3) := by decide +kernel
theorem dX12_rule_4 : decode cX12_rule 4 = .ok (.bipush 6, 2) := by decide +kernel
theorem dX12_rule_6 : decode cX12_rule 6 = .ok (.if_icmp .ne 5, 3) := by decide +kernel
theorem dX12_rule_9 : decode cX12_rule 9 = .ok (.iconst (-1), 1) := by decide +kernel
theorem dX12_rule_10 : decode cX12_rule 10 = .ok (.ireturn, 1) := by decide +kernel
theorem dX12_rule_11 : decode cX12_rule 11 = .ok (.aload_n 0, 1) := by decide +kernel
theorem dX12_rule_12 : decode cX12_rule 12 = .ok (.aload_n 0, 1) := by decide +kernel
theorem dX12_rule_13 : decode cX12_rule 13 = .ok (.getfield 271, 3) := by decide +kernel
theorem dX12_rule_16 : decode cX12_rule 16 = .ok (.putfield 147, 3) := by decide +kernel
theorem dX12_rule_19 : decode cX12_rule 19 = .ok (.aload_n 0, 1) := by decide +kernel
theorem dX12_rule_20 : decode cX12_rule 20 = .ok (.getfield 23, 3) := by decide +kernel
theorem dX12_rule_23 : decode cX12_rule 23 = .ok (.aload_n 0, 1) := by decide +kernel
theorem dX12_rule_24 : decode cX12_rule 24 = .ok (.getfield 147, 3) := by decide +kernel
theorem dX12_rule_27 : decode cX12_rule 27 = .ok (.iconst 0, 1) := by decide +kernel
theorem dX12_rule_28 : decode cX12_rule 28 = .ok (.iastore, 1) := by decide +kernel
theorem dX12_rule_29 : decode cX12_rule 29 = .ok (.aload_n 0, 1) := by decide +kernel
theorem dX12_rule_30 : decode cX12_rule 30 = .ok (.invokevirtual 274, 3) := by decide +kernel
theorem dX12_rule_33 : decode cX12_rule 33 = .ok (.ifCond .ne 11, 3) := by decide +kernel
theorem dX12_rule_36 : decode cX12_rule 36 = .ok (.bipush (-2), 2) := by decide +kernel
theorem dX12_rule_38 : decode cX12_rule 38 = .ok (.aload_n 0, 1) := by decide +kernel
theorem dX12_rule_39 : decode cX12_rule 39 = .ok (.getfield 90, 3) := by decide +kernel
theorem dX12_rule_42 : decode cX12_rule 42 = .ok (.isub, 1) := by decide +kernel
theorem dX12_rule_43 : decode cX12_rule 43 = .ok (.ireturn, 1) := by decide +kernel
theorem dX12_rule_44 : decode cX12_rule 44 = .ok (.aload_n 0, 1) := by decide +kernel
theorem dX12_rule_45 : decode cX12_rule 45 = .ok (.dup, 1) := by decide +kernel
theorem dX12_rule_46 : decode cX12_rule 46 = .ok (.getfield 271, 3) := by decide +kernel
theorem dX12_rule_49 : decode cX12_rule 49 = .ok (.iconst 1, 1) := by decide +kernel
theorem dX12_rule_50 : decode cX12_rule 50 = .ok (.iadd, 1) := by decide +kernel
theorem dX12_rule_51 : decode cX12_rule 51 = .ok (.putfield 271, 3) := by decide +kernel
theorem dX12_rule_54 : decode cX12_rule 54 = .ok (.aload_n 0, 1) := by decide +kernel
theorem dX12_rule_55 : decode cX12_rule 55 = .ok (.getfield 271, 3) := by decide +kernel
theorem dX12_rule_58 : decode cX12_rule 58 = .ok (.iconst 1, 1) := by decide +kernel
theorem dX12_rule_59 : decode cX12_rule 59 = .ok (.isub, 1) := by decide +kernel
theorem dX12_rule_60 : decode cX12_rule 60 = .ok (.ireturn, 1) := by decide +kernel
theorem dX12_ruled_0 : decode cX12_ruled 0 = .ok (.aload_n 0, 1) := by decide +kernel
theorem dX12_ruled_1 : decode cX12_ruled 1 = .ok (.invokevirtual 379, 3) := by decide +kernel
theorem dX12_ruled_4 : decode cX12_ruled 4 = .ok (.ifCond .eq 13, 3) := by decide +kernel
theorem dX12_ruled_7 : decode cX12_ruled 7 = .ok (.iload_n 1, 1) := by decide +kernel
theorem dX12_ruled_8 : decode cX12_ruled 8 = .ok (.i2l, 1) := by decide +kernel
theorem dX12_ruled_9 : decode cX12_ruled 9 = .ok (.lconst 0, 1) := by decide +kernel
theorem dX12_ruled_10 : decode cX12_ruled 10 = .ok (.lconst 1, 1) := by decide +kernel
theorem dX12_ruled_11 : decode cX12_ruled 11 = .ok (.invokestatic 121, 3) := by decide +kernel
theorem dX12_ruled_14 : decode cX12_ruled 14 = .ok (.ifCond .ne 6, 3) := by decide +kernel
theorem dX12_ruled_17 : decode cX12_ruled 17 = .ok (.bipush (-3), 2) := by decide +kernel
theorem dX12_ruled_19 : decode cX12_ruled 19 = .ok (.ireturn, 1) := by decide +kernel
theorem dX12_ruled_20 : decode cX12_ruled 20 = .ok (.aload_n 0, 1) := by decide +kernel
theorem dX12_ruled_21 : decode cX12_ruled 21 = .ok (.invokevirtual 450, 3) := by decide +kernel
theorem dX12_ruled_24 : decode cX12_ruled 24 = .ok (.iconst 0, 1) := by decide +kernel
theorem dX12_ruled_25 : decode cX12_ruled 25 = .ok (.istore_n 2, 1) := by decide +kernel
theorem dX12_ruled_26 : decode cX12_ruled 26 = .ok (.bipush (-2), 2) := by decide +kernel
theorem dX12_ruled_28 : decode cX12_ruled 28 = .ok (.istore_n 3, 1) := by decide +kernel
theorem dX12_ruled_29 : decode cX12_ruled 29 = .ok (.aload_n 0, 1) := by decide +kernel
theorem dX12_ruled_30 : decode cX12_ruled 30 = .ok (.getfield 271, 3) := by decide +kernel
theorem dX12_ruled_33 : decode cX12_ruled 33 = .ok (.istore 4, 2) := by decide +kernel
theorem dX12_ruled_35 : decode cX12_ruled 35 = .ok (.iload 4, 2) := by decide +kernel
theorem dX12_ruled_37 : decode cX12_ruled 37 = .ok (.ifCond .lt 30, 3) := by decide +kernel
theorem dX12_ruled_40 : decode cX12_ruled 40 = .ok (.aload_n 0, 1) := by decide +kernel
theorem dX12_ruled_41 : decode cX12_ruled 41 = .ok (.getfield 64, 3) := by decide +kernel
theorem dX12_ruled_44 : decode cX12_ruled 44 = .ok (.iload 4, 2) := by decide +kernel
theorem dX12_ruled_46 : decode cX12_ruled 46 = .ok (.baload, 1) := by decide +kernel
theorem dX12_ruled_47 : decode cX12_ruled 47 = .ok (.ifCond .ne 6, 3) := by decide +kernel
theorem dX12_ruled_50 : decode cX12_ruled 50 = .ok (.goto 11, 3) := by decide +kernel
theorem dX12_ruled_53 : decode cX12_ruled 53 = .ok (.iload 4, 2) := by decide +kernel
theorem dX12_ruled_55 : decode cX12_ruled 55 = .ok (.iconst 1, 1) := by decide +kernel
theorem dX12_ruled_56 : decode cX12_ruled 56 = .ok (.isub, 1) := by decide +kernel
theorem dX12_ruled_57 : decode cX12_ruled 57 = .ok (.istore_n 3, 1) := by decide +kernel
theorem dX12_ruled_58 : decode cX12_ruled 58 = .ok (.iinc 2 1, 3) := by decide +kernel
theorem dX12_ruled_61 : decode cX12_ruled 61 = .ok (.iinc 4 (-1), 3) := by decide +kernel
theorem dX12_ruled_64 : decode cX12_ruled 64 = .ok (.goto (-29), 3) := by decide +kernel
theorem dX12_ruled_67 : decode cX12_ruled 67 = .ok (.iload_n 1, 1) := by decide +kernel
theorem dX12_ruled_68 : decode cX12_ruled 68 = .ok (.ifCond .ne 7, 3) := by decide +kernel
theorem dX12_ruled_71 : decode cX12_ruled 71 = .ok (.iload_n 2, 1) := by decide +kernel
theorem dX12_ruled_72 : decode cX12_ruled 72 = .ok (.goto 4, 3) := by decide +kernel
theorem dX12_ruled_75 : decode cX12_ruled 75 = .ok (.iload_n 3, 1) := by decide +kernel
theorem dX12_ruled_76 : decode cX12_ruled 76 = .ok (.ireturn, 1) := by decide +kernel
set_option maxHeartbeats 4000000 in
set_option maxRecDepth 100000 in
theorem t_X12_least (l : Launch) (dC : Nat → ClassId) (dI : Nat → Nat → Nat) (tys : List (ClassId × FieldType)) (κ : tK) (B : Nat) (ws : va_W) (hT : Ty κ tys B ws) (a0 : Nat) (k_a0 : κ a0 = some 12) (a1 : Int32) (f0 : Nat) (k_f0 : κ f0 = some 63) (f_a0_X12_20 : fld ws a0 12 20 (.ref f0)) (f1 : Int32) (l_f1 : 0 ≤ f1.toInt) (h_f1 : f1.toInt ≤ 999) (f_f0_M_said_10 : elt ws f0 (10 : Int32).toInt.toNat f1) (hRT : RT κ ws a0) (sz : Nat) : Met l yX12_least (ws_u yX12_least cX12_least 5 (some .int)) ({ frames := 7, cells := 0, slots := 0, locals := 168 }) (va_Pc [.ref a0, .int a1] (cPre (dC, dI) tys ws sz)) (va_Qi (fun (r : Int32) (w : va_W) => (-2) ≤ r.toInt ∧ r.toInt ≤ 20 ∧ Ty κ tys B w ∧ Sm [(12, 18)] [61, 62, 63, 64] κ ws w ∧ elt w f0 (10 : Int32).toInt.toNat f1) (fun w t => cPost (dC, dI) tys w (va_A ws sz) t) (va_A ws sz)) 0 0 (va_A ws sz) := by
  refine Met.ofW (cc := cX12_least) (maxL := 5) (ret := (some .int)) (by decide) rfl ?_
  intro p e s m args below meth c s₁ B0 hml hv
  obtain ⟨rfl, hsz, hP, hK, hD0, hE⟩ := hv
  have hx := B0.exec
  have hb := B0.bytes
  have hr := B0.returns
  have hts0 := atoms_spec (ws := ws_u yX12_least cX12_least 5 (some .int)) B0.pre
  have hts : ∀ w ∈ gT, w.before _ s = true := fun w h => hts0 w (List.mem_cons_of_mem _ h)
  have hown : s.vm.findClass RX12 = some m.cls := findClass_of_methodNamed B0.named
  have hlocks := B0.notSynchronized
  subst hsz
  have hD := hD0.self (sz := s.heap.size)
  generalize hAe : va_A ws s.heap.size = A at hD ⊢
  have hA : ∀ q : Nat, s.heap.size ≤ q → A q := fun q h => by rw [← hAe]; exact Or.inr h
  have hw : tW (dC, dI) tys κ B A s ws s.heap [] := ⟨hK, hP, hD, va_S.rf, hT⟩
  have hM : Sm [(12, 18)] [61, 62, 63, 64] κ ws ws := Sm.rf
  clear hP hK hD hD0 hts0
  have l_a1 := i32_lo a1
  have h_a1 := i32_hi a1
  have hl := lv_entry ([.ref a0, .int a1]) (n := 5) (Nat.le_of_ble_eq_true rfl)
  rw [lg_entry_eq]
  generalize (lg_sl ([.ref a0, .int a1]) ++ List.replicate (5 - (lg_sl ([.ref a0, .int a1])).length) Slot.unset).toArray = ls at hl ⊢
  have hl : lv_has ls 5 [(0, .ref a0), (1, .int a1)] := hl
  refine t_start (fun QQ hQ => ?_)
  refine lv_aload_n hx hb dX12_least_0 rfl (lv_at hl 0 rfl) ?_
  refine lv_iload_n hx hb dX12_least_1 rfl (lv_at hl 1 rfl) ?_
  refine t_calli (va_runV (As := [.int a1]) (rest := []) ⟨hx, hb, hml, hown, hts⟩ (t_X12_isSound l dC dI tys κ B ws hw.2.2.2.2 a0 k_a0 a1 s.heap.size) (cwV 1 hts (gUV tw_1517 tw_1519 ts_6_3 tw_13 tw_1520) rfl rfl rfl (by decide +kernel) ⟨(Nat.le_of_ble_eq_true rfl), (Nat.le_of_ble_eq_true rfl)⟩) ⟨cPre.blind, t_recv hw (ci := 12) k_a0 rfl rfl, cPre.use hw.2.1 hw.1 hw.2.2.1 hE⟩ rfl rfl hl.1 rfl (lv_room (Nat.le_of_ble_eq_true rfl)) dX12_least_2 ⟨(Nat.le_of_ble_eq_true rfl), (Nat.le_of_ble_eq_true rfl)⟩) hw hA (fun _ _ h => h.2.2.1) (fun v2 w_1 H locs hp hw => ?_)
  obtain ⟨l_v2, h_v2, _, hm, x_v2_0⟩ := hp
  have hM := hM.trans hm (by decide) (by decide)
  have f_a0_X12_20 := hm.1 _ _ _ _ f_a0_X12_20 (by decide)
  have f_f0_M_said_10 := hm.elt k_f0 (by decide) f_f0_M_said_10
  refine lv_if_ne (tgt := 10) hx hb dX12_least_5 (by decide) (fun c_5 => ?_) (fun c_5 => ?_)
  · simp only [fa_lt, fa_le, fa_eq, li_0] at c_5
    refine lv_aload_n hx hb dX12_least_10 rfl (lv_at hl 0 rfl) ?_
    refine lv_iload_n hx hb dX12_least_11 rfl (lv_at hl 1 rfl) ?_
    refine lv_iconst (v := 1) hx hb dX12_least_12 (by decide) ?_
    refine t_calli (va_runV (As := [.int a1, .int 1]) (rest := []) ⟨hx, hb, hml, hown, hts⟩ (t_X12_boyOf l dC dI tys κ B w_1 hw.2.2.2.2 a0 k_a0 a1 (by omega) (by omega) 1 (by decide) (by decide) H.size) (cwV 2 hts (gUV tw_1453 tw_1455 ts_5_8 tw_13 tw_1456) rfl rfl rfl (by decide +kernel) ⟨(Nat.le_of_ble_eq_true rfl), (Nat.le_of_ble_eq_true rfl)⟩) ⟨cPre.blind, t_recv hw (ci := 12) k_a0 rfl rfl, cPre.use hw.2.1 hw.1 hw.2.2.1 hE⟩ rfl rfl hl.1 rfl (lv_room (Nat.le_of_ble_eq_true rfl)) dX12_least_13 ⟨(Nat.le_of_ble_eq_true rfl), (Nat.le_of_ble_eq_true rfl)⟩) hw hA (fun _ _ h => h.1) (fun v13 w_2 H locs hp hw => ?_)
    obtain ⟨_, hm⟩ := hp
    have l_v13 := i32_lo v13
    have h_v13 := i32_hi v13
    have hM := hM.trans hm (by decide) (by decide)
    have f_a0_X12_20 := hm.1 _ _ _ _ f_a0_X12_20 (by decide)
    have f_f0_M_said_10 := hm.elt k_f0 (by decide) f_f0_M_said_10
    refine lv_istore_n (lv' := [(2, .int v13), (0, .ref a0), (1, .int a1)]) hx hb dX12_least_16 rfl hl (by decide) rfl (fun ls hl => ?_)
    refine lv_bipush (v := (-2)) hx hb dX12_least_17 (by decide) ?_
    refine lv_istore_n (lv' := [(3, .int (-2)), (2, .int v13), (0, .ref a0), (1, .int a1)]) hx hb dX12_least_19 rfl hl (by decide) rfl (fun ls hl => ?_)
    refine lv_bipush (v := 20) hx hb dX12_least_20 (by decide) ?_
    refine lv_istore (lv' := [(4, .int 20), (3, .int (-2)), (2, .int v13), (0, .ref a0), (1, .int a1)]) hx hb dX12_least_22 hl (by decide) rfl (fun ls hl => ?_)
    have J24 : ∀ (n : Nat) (H : Heap) (locs : List Loc) (ls : Array Slot), (∃ (w24 : va_W) (p24_l3 : Int32) (p24_l4 : Int32), tW (dC, dI) tys κ B A s w24 H locs ∧ Sm [(12, 18)] [61, 62, 63, 64] κ ws w24 ∧ (-2) ≤ p24_l3.toInt ∧ p24_l3.toInt ≤ 20 ∧ (-1) ≤ p24_l4.toInt ∧ p24_l4.toInt ≤ 20 ∧ fld w24 a0 12 20 (.ref f0) ∧ elt w24 f0 (10 : Int32).toInt.toNat f1 ∧ lv_has ls 5 [(0, .ref a0), (1, .int a1), (2, .int v13), (3, .int p24_l3), (4, .int p24_l4)] ∧ (p24_l4.toInt - (-1)).toNat = n) → W p l e (headSpec (ws_u yX12_least cX12_least 5 (some .int)) ({ frames := 7, cells := 0, slots := 0, locals := 168 })).room s m ([.ref a0, .int a1] : List Value).toArray below meth c H locs 0 0 QQ (F0 m 24 ls []) := by
      refine loopT _ ?_
      intro n_24 H locs ls hI ih_24
      obtain ⟨w24, p24_l3, p24_l4, hw, hM, l_p24_l3, h_p24_l3, l_p24_l4, h_p24_l4, f_a0_X12_20, f_f0_M_said_10, hl, hn_24⟩ := hI
      refine lv_iload hx hb dX12_least_24 (lv_at hl 4 rfl) ?_
      refine lv_if_lt (tgt := 61) hx hb dX12_least_26 (by decide) (fun c_26 => ?_) (fun c_26 => ?_)
      · simp only [fa_lt, fa_le, fa_eq, li_0] at c_26
        refine lv_aload_n hx hb dX12_least_61 rfl (lv_at hl 0 rfl) ?_
        refine t_getk (ci := 12) (C := RX12) (T := TX12) (N := 38) hx hb hts iX12 hown hw rfl 20 (by decide) (hts _ tw_1145) (fun _ h9 => h9) dX12_least_62 f_a0_X12_20 ?_
        refine lv_bipush (v := 16) hx hb dX12_least_65 (by decide) ?_
        refine lv_iconst (v := 3) hx hb dX12_least_67 (by decide) ?_
        refine lv_iload_n hx hb dX12_least_68 rfl (lv_at hl 1 rfl) ?_
        refine lv_imul hx hb dX12_least_69 ?_
        refine lv_topi (fun v69 e_v69 => ?_)
        have e_v69 : v69.toInt = 3 * a1.toInt := ml_i e_v69 li_3 rfl (by omega) (by omega)
        refine lv_iadd hx hb dX12_least_70 ?_
        refine lv_topi (fun v70 e_v70 => ?_)
        have e_v70 : v70.toInt = 16 + v69.toInt := ad_i e_v70 li_16 rfl (by omega) (by omega)
        refine lv_iconst (v := 1) hx hb dX12_least_71 (by decide) ?_
        refine lv_iadd hx hb dX12_least_72 ?_
        refine lv_topi (fun v72 e_v72 => ?_)
        have e_v72 : v72.toInt = v70.toInt + 1 := ad_i e_v72 rfl li_1 (by omega) (by omega)
        refine lv_iload_n hx hb dX12_least_73 rfl (lv_at hl 2 rfl) ?_
        refine t_iast hx hb hw k_f0 rfl rfl (by omega) (show v72.toInt < 306 by omega) (by rw [fr_63 (by omega) (by omega)]; exact i32_lo _) (by rw [fr_63 (by omega) (by omega)]; exact i32_hi _) dX12_least_74 (fun w_3 H locs hw u => ?_)
        have hM := hM.up3 u k_f0 (by decide)
        have f_a0_X12_20 := u.1 _ _ _ _ f_a0_X12_20
        have f_f0_M_said_10 := u.2.2.1 _ _ _ f_f0_M_said_10 (Or.inr (by rw [show (10 : Int32).toInt.toNat = 10 by decide]; omega))
        refine lv_iload_n hx hb dX12_least_75 rfl (lv_at hl 3 rfl) ?_
        rw [hQ]
        refine W.widen (k := 0) (n := 0) (Nat.le_refl _) (Nat.le_refl _) ?_
        exact W.iret (v := p24_l3) hx hb hr (fun t ht hW => ⟨⟨p24_l3, w_3, rfl, ⟨(by omega), (by omega), hw.2.2.2.2, hM, f_f0_M_said_10⟩, by rw [ht]; exact hw.2.1, va_K.moved hW.alike hw.1, hw.2.2.1⟩, hw.2.2.2.1.F ht⟩) hw.2.2.2.1.2.2 dX12_least_76
      · simp only [fa_lt, fa_le, fa_eq, li_0] at c_26
        refine lv_aload_n hx hb dX12_least_29 rfl (lv_at hl 0 rfl) ?_
        refine t_getk (ci := 12) (C := RX12) (T := TX12) (N := 38) hx hb hts iX12 hown hw rfl 20 (by decide) (hts _ tw_1145) (fun _ h9 => h9) dX12_least_30 f_a0_X12_20 ?_
        refine lv_bipush (v := 16) hx hb dX12_least_33 (by decide) ?_
        refine lv_iconst (v := 3) hx hb dX12_least_35 (by decide) ?_
        refine lv_iload_n hx hb dX12_least_36 rfl (lv_at hl 1 rfl) ?_
        refine lv_imul hx hb dX12_least_37 ?_
        refine lv_topi (fun v37 e_v37 => ?_)
        have e_v37 : v37.toInt = 3 * a1.toInt := ml_i e_v37 li_3 rfl (by omega) (by omega)
        refine lv_iadd hx hb dX12_least_38 ?_
        refine lv_topi (fun v38 e_v38 => ?_)
        have e_v38 : v38.toInt = 16 + v37.toInt := ad_i e_v38 li_16 rfl (by omega) (by omega)
        refine lv_iconst (v := 1) hx hb dX12_least_39 (by decide) ?_
        refine lv_iadd hx hb dX12_least_40 ?_
        refine lv_topi (fun v40 e_v40 => ?_)
        have e_v40 : v40.toInt = v38.toInt + 1 := ad_i e_v40 rfl li_1 (by omega) (by omega)
        refine lv_iload hx hb dX12_least_41 (lv_at hl 4 rfl) ?_
        refine t_iast hx hb hw k_f0 rfl rfl (by omega) (show v40.toInt < 306 by omega) (by rw [fr_63 (by omega) (by omega)]; exact i32_lo _) (by rw [fr_63 (by omega) (by omega)]; exact i32_hi _) dX12_least_43 (fun w_4 H locs hw u => ?_)
        have hM := hM.up3 u k_f0 (by decide)
        have f_a0_X12_20 := u.1 _ _ _ _ f_a0_X12_20
        have f_f0_M_said_10 := u.2.2.1 _ _ _ f_f0_M_said_10 (Or.inr (by rw [show (10 : Int32).toInt.toNat = 10 by decide]; omega))
        refine lv_aload_n hx hb dX12_least_44 rfl (lv_at hl 0 rfl) ?_
        refine t_calli (va_runV (As := []) (rest := []) ⟨hx, hb, hml, hown, hts⟩ (t_X12_chosen l dC dI tys κ B w_4 hw.2.2.2.2 a0 k_a0 (hRT.sm hM (by decide) (by decide)) H.size) (cwV 0 hts (gUV tw_1505 tw_1507 ts_6_0 tw_13 tw_1508) rfl rfl rfl (by decide +kernel) ⟨(Nat.le_of_ble_eq_true rfl), (Nat.le_of_ble_eq_true rfl)⟩) ⟨cPre.blind, t_recv hw (ci := 12) k_a0 rfl rfl, cPre.use hw.2.1 hw.1 hw.2.2.1 hE⟩ rfl rfl hl.1 rfl (lv_room (Nat.le_of_ble_eq_true rfl)) dX12_least_45 ⟨(Nat.le_of_ble_eq_true rfl), (Nat.le_of_ble_eq_true rfl)⟩) hw hA (fun _ _ h => h.2.2.1) (fun v45 w_5 H locs hp hw => ?_)
        obtain ⟨l_v45, h_v45, _, hm⟩ := hp
        have hM := hM.trans hm (by decide) (by decide)
        have f_a0_X12_20 := hm.1 _ _ _ _ f_a0_X12_20 (by decide)
        have f_f0_M_said_10 := hm.elt k_f0 (by decide) f_f0_M_said_10
        refine lv_iload_n hx hb dX12_least_48 rfl (lv_at hl 1 rfl) ?_
        have J55 : ∀ (H : Heap) (locs : List Loc) (ls : Array Slot) (w55 : va_W) (p55_l3 : Int32), tW (dC, dI) tys κ B A s w55 H locs → Sm [(12, 18)] [61, 62, 63, 64] κ ws w55 → (-2) ≤ p55_l3.toInt → p55_l3.toInt ≤ 20 → fld w55 a0 12 20 (.ref f0) → elt w55 f0 (10 : Int32).toInt.toNat f1 → lv_has ls 5 [(0, .ref a0), (1, .int a1), (2, .int v13), (3, .int p55_l3), (4, .int p24_l4)] → W p l e (headSpec (ws_u yX12_least cX12_least 5 (some .int)) ({ frames := 7, cells := 0, slots := 0, locals := 168 })).room s m ([.ref a0, .int a1] : List Value).toArray below meth c H locs 0 0 QQ (F0 m 55 ls []) := by
          intro H locs ls w55 p55_l3 hw hM l_p55_l3 h_p55_l3 f_a0_X12_20 f_f0_M_said_10 hl
          obtain ⟨v55, e_v55⟩ : ∃ y : Int32, y = p24_l4 + (-1) := ⟨_, rfl⟩
          refine lv_iinc (v := v55) (lv' := [(4, .int v55), (0, .ref a0), (1, .int a1), (2, .int v13), (3, .int p55_l3)]) hx hb dX12_least_55 hl (k := 4) rfl e_v55.symm (by decide) rfl (fun ls hl => ?_)
          have e_v55 : v55.toInt = p24_l4.toInt + (-1) := ad_i e_v55 rfl li_m1 (by omega) (by omega)
          refine lv_goto (tgt := 24) hx hb dX12_least_58 (by decide) ?_
          exact ih_24 _ _ _ _ (by omega) ⟨w55, p55_l3, v55, hw, hM, (by omega), (by omega), (by omega), (by omega), f_a0_X12_20, f_f0_M_said_10, (lv_sub hl [1, 2, 3, 4, 0] rfl), rfl⟩
        refine lv_icmp_ne (tgt := 55) hx hb dX12_least_49 (by decide) (fun c_49 => ?_) (fun c_49 => ?_)
        · simp only [fa_lt, fa_le, fa_eq] at c_49
          exact J55 _ _ _ w_5 p24_l3 hw hM (by omega) (by omega) f_a0_X12_20 f_f0_M_said_10 (lv_sub hl [0, 1, 2, 3, 4] rfl)
        · simp only [fa_lt, fa_le, fa_eq] at c_49
          refine lv_iload hx hb dX12_least_52 (lv_at hl 4 rfl) ?_
          refine lv_istore_n (lv' := [(3, .int p24_l4), (0, .ref a0), (1, .int a1), (2, .int v13), (4, .int p24_l4)]) hx hb dX12_least_54 rfl hl (by decide) rfl (fun ls hl => ?_)
          exact J55 _ _ _ w_5 p24_l4 hw hM (by omega) (by omega) f_a0_X12_20 f_f0_M_said_10 (lv_sub hl [1, 2, 3, 0, 4] rfl)
    exact J24 _ _ _ _ ⟨w_2, (-2), 20, hw, hM, (by decide), (by decide), (by decide), (by decide), f_a0_X12_20, f_f0_M_said_10, (lv_sub hl [3, 4, 2, 1, 0] rfl), rfl⟩
  · simp only [fa_lt, fa_le, fa_eq, li_0] at c_5
    refine lv_iconst (v := (-1)) hx hb dX12_least_8 (by decide) ?_
    rw [hQ]
    refine W.widen (k := 0) (n := 0) (Nat.le_refl _) (Nat.le_refl _) ?_
    exact W.iret (v := (-1)) hx hb hr (fun t ht hW => ⟨⟨(-1), w_1, rfl, ⟨(by decide), (by decide), hw.2.2.2.2, hM, f_f0_M_said_10⟩, by rw [ht]; exact hw.2.1, va_K.moved hW.alike hw.1, hw.2.2.1⟩, hw.2.2.2.1.F ht⟩) hw.2.2.2.1.2.2 dX12_least_9
set_option maxHeartbeats 4000000 in
set_option maxRecDepth 100000 in
theorem t_X12_look (l : Launch) (dC : Nat → ClassId) (dI : Nat → Nat → Nat) (tys : List (ClassId × FieldType)) (κ : tK) (B : Nat) (ws : va_W) (hT : Ty κ tys B ws) (a0 : Nat) (k_a0 : κ a0 = some 12) (a1 : Int32) (f0 : Nat) (k_f0 : κ f0 = some 63) (f_a0_X12_20 : fld ws a0 12 20 (.ref f0)) (f1 : Int32) (l_f1 : 0 ≤ f1.toInt) (h_f1 : f1.toInt ≤ 999) (f_f0_M_said_10 : elt ws f0 (10 : Int32).toInt.toNat f1) (hRT : RT κ ws a0) (sz : Nat) : Met l yX12_look (ws_u yX12_look cX12_look 4 (some .int)) ({ frames := 10, cells := 0, slots := 0, locals := 234 }) (va_Pc [.ref a0, .int a1] (cPre (dC, dI) tys ws sz)) (va_Qi (fun (r : Int32) (w : va_W) => (-2) ≤ r.toInt ∧ r.toInt ≤ 2147483647 ∧ Ty κ tys B w ∧ Sm [(12, 18), (12, 21), (12, 24)] [61, 62, 63, 64, 66, 70, 71] κ ws w ∧ (∃ (xd : Int32), 0 ≤ xd.toInt ∧ xd.toInt ≤ 999 ∧ elt w f0 (10 : Int32).toInt.toNat xd)) (fun w t => cPost (dC, dI) tys w (va_A ws sz) t) (va_A ws sz)) 0 0 (va_A ws sz) := by
  refine Met.ofW (cc := cX12_look) (maxL := 4) (ret := (some .int)) (by decide) rfl ?_
  intro p e s m args below meth c s₁ B0 hml hv
  obtain ⟨rfl, hsz, hP, hK, hD0, hE⟩ := hv
  have hx := B0.exec
  have hb := B0.bytes
  have hr := B0.returns
  have hts0 := atoms_spec (ws := ws_u yX12_look cX12_look 4 (some .int)) B0.pre
  have hts : ∀ w ∈ gT, w.before _ s = true := fun w h => hts0 w (List.mem_cons_of_mem _ h)
  have hown : s.vm.findClass RX12 = some m.cls := findClass_of_methodNamed B0.named
  have hlocks := B0.notSynchronized
  subst hsz
  have hD := hD0.self (sz := s.heap.size)
  generalize hAe : va_A ws s.heap.size = A at hD ⊢
  have hA : ∀ q : Nat, s.heap.size ≤ q → A q := fun q h => by rw [← hAe]; exact Or.inr h
  have hw : tW (dC, dI) tys κ B A s ws s.heap [] := ⟨hK, hP, hD, va_S.rf, hT⟩
  have hM : Sm [(12, 18), (12, 21), (12, 24)] [61, 62, 63, 64, 66, 70, 71] κ ws ws := Sm.rf
  clear hP hK hD hD0 hts0
  have l_a1 := i32_lo a1
  have h_a1 := i32_hi a1
  have hl := lv_entry ([.ref a0, .int a1]) (n := 4) (Nat.le_of_ble_eq_true rfl)
  rw [lg_entry_eq]
  generalize (lg_sl ([.ref a0, .int a1]) ++ List.replicate (4 - (lg_sl ([.ref a0, .int a1])).length) Slot.unset).toArray = ls at hl ⊢
  have hl : lv_has ls 4 [(0, .ref a0), (1, .int a1)] := hl
  refine t_start (fun QQ hQ => ?_)
  refine lv_aload_n hx hb dX12_look_0 rfl (lv_at hl 0 rfl) ?_
  refine t_calli (va_runV (As := []) (rest := []) ⟨hx, hb, hml, hown, hts⟩ (t_X12_isChoir l dC dI tys κ B ws hw.2.2.2.2 a0 k_a0 s.heap.size) (cwV 0 hts (gUV tw_1489 tw_1491 ts_5_12 tw_13 tw_1492) rfl rfl rfl (by decide +kernel) ⟨(Nat.le_of_ble_eq_true rfl), (Nat.le_of_ble_eq_true rfl)⟩) ⟨cPre.blind, t_recv hw (ci := 12) k_a0 rfl rfl, cPre.use hw.2.1 hw.1 hw.2.2.1 hE⟩ rfl rfl hl.1 rfl (lv_room (Nat.le_of_ble_eq_true rfl)) dX12_look_1 ⟨(Nat.le_of_ble_eq_true rfl), (Nat.le_of_ble_eq_true rfl)⟩) hw hA (fun _ _ h => h.2.2.1) (fun v1 w_1 H locs hp hw => ?_)
  obtain ⟨l_v1, h_v1, _, hm⟩ := hp
  have hM := hM.trans hm (by decide) (by decide)
  have f_a0_X12_20 := hm.1 _ _ _ _ f_a0_X12_20 (by decide)
  have f_f0_M_said_10 := hm.elt k_f0 (by decide) f_f0_M_said_10
  refine lv_if_eq (tgt := 17) hx hb dX12_look_4 (by decide) (fun c_4 => ?_) (fun c_4 => ?_)
  · simp only [fa_lt, fa_le, fa_eq, li_0] at c_4
    refine lv_iconst (v := (-1)) hx hb dX12_look_17 (by decide) ?_
    rw [hQ]
    refine W.widen (k := 0) (n := 0) (Nat.le_refl _) (Nat.le_refl _) ?_
    exact W.iret (v := (-1)) hx hb hr (fun t ht hW => ⟨⟨(-1), w_1, rfl, ⟨(by decide), (by decide), hw.2.2.2.2, hM, ⟨f1, (by omega), (by omega), f_f0_M_said_10⟩⟩, by rw [ht]; exact hw.2.1, va_K.moved hW.alike hw.1, hw.2.2.1⟩, hw.2.2.2.1.F ht⟩) hw.2.2.2.1.2.2 dX12_look_18
  · simp only [fa_lt, fa_le, fa_eq, li_0] at c_4
    refine lv_iload_n hx hb dX12_look_7 rfl (lv_at hl 1 rfl) ?_
    refine lv_i2l hx hb dX12_look_8 rfl ?_
    refine lv_topl (fun v8 e_v8 => ?_)
    have t_v8 : v8.toInt = a1.toInt := by rw [e_v8, Int32.toInt_toInt64]
    refine lv_lconst (v := 0) hx hb dX12_look_9 (by decide) ?_
    obtain ⟨v9, e_v9⟩ : ∃ y : Int64, y = 0 := ⟨_, rfl⟩
    refine W.eq (g2 := F0 m 10 ls [.long v9, .long v8]) (by rw [e_v9]) ?_
    have t_v9 : v9.toInt = 0 := by rw [e_v9]; decide
    refine lv_lconst (v := 1) hx hb dX12_look_10 (by decide) ?_
    obtain ⟨v10, e_v10⟩ : ∃ y : Int64, y = 1 := ⟨_, rfl⟩
    refine W.eq (g2 := F0 m 11 ls [.long v10, .long v9, .long v8]) (by rw [e_v10]) ?_
    have t_v10 : v10.toInt = 1 := by rw [e_v10]; decide
    refine t_calli (va_runS (As := [.long v8, .long v9, .long v10]) (rest := []) ⟨hx, hb, hml, hown, hts⟩ (t_X12_in l dC dI tys κ B w_1 hw.2.2.2.2 v8 v9 v10 H.size) (va_cwS 3 hts (gUS tw_1316 tw_1317 tw_13 tw_1318) rfl rfl rfl (by decide +kernel) ⟨(Nat.le_of_ble_eq_true rfl), (Nat.le_of_ble_eq_true rfl)⟩) ⟨cPre.blind, cPre.use hw.2.1 hw.1 hw.2.2.1 hE⟩ rfl rfl hl.1 rfl (lv_room (Nat.le_of_ble_eq_true rfl)) dX12_look_11 ⟨(Nat.le_of_ble_eq_true rfl), (Nat.le_of_ble_eq_true rfl)⟩) hw hA (fun _ _ h => h.2.2.1) (fun v11 w_2 H locs hp hw => ?_)
    obtain ⟨l_v11, h_v11, _, hm, x_v11_0⟩ := hp
    have hM := hM.trans hm (by decide) (by decide)
    have f_a0_X12_20 := hm.1 _ _ _ _ f_a0_X12_20 (by decide)
    have f_f0_M_said_10 := hm.elt k_f0 (by decide) f_f0_M_said_10
    refine lv_if_ne (tgt := 19) hx hb dX12_look_14 (by decide) (fun c_14 => ?_) (fun c_14 => ?_)
    · simp only [fa_lt, fa_le, fa_eq, li_0] at c_14
      refine lv_aload_n hx hb dX12_look_19 rfl (lv_at hl 0 rfl) ?_
      refine t_callv (va_runV (As := []) (rest := []) ⟨hx, hb, hml, hown, hts⟩ (t_X12_fillsFits l dC dI tys κ B w_2 hw.2.2.2.2 a0 k_a0 f0 k_f0 f_a0_X12_20 f1 (by omega) (by omega) f_f0_M_said_10 (hRT.sm hM (by decide) (by decide)) H.size) (cwV 0 hts (gUV tw_1708 tw_1710 ts_7_15 tw_13 tw_1711) rfl rfl rfl (by decide +kernel) ⟨(Nat.le_of_ble_eq_true rfl), (Nat.le_of_ble_eq_true rfl)⟩) ⟨cPre.blind, t_recv hw (ci := 12) k_a0 rfl rfl, cPre.use hw.2.1 hw.1 hw.2.2.1 hE⟩ rfl rfl hl.1 rfl (lv_room (Nat.le_of_ble_eq_true rfl)) dX12_look_20 ⟨(Nat.le_of_ble_eq_true rfl), (Nat.le_of_ble_eq_true rfl)⟩) hw hA (fun _ h => h.1) (fun w_3 H locs hp hw => ?_)
      obtain ⟨_, hm, ⟨v20d, l_v20d, h_v20d, f_f0_M_said_10⟩⟩ := hp
      have hM := hM.trans hm (by decide) (by decide)
      have f_a0_X12_20 := hm.1 _ _ _ _ f_a0_X12_20 (by decide)
      refine lv_iconst (v := 0) hx hb dX12_look_23 (by decide) ?_
      refine lv_istore_n (lv' := [(2, .int 0), (0, .ref a0), (1, .int a1)]) hx hb dX12_look_24 rfl hl (by decide) rfl (fun ls hl => ?_)
      refine lv_iconst (v := 1) hx hb dX12_look_25 (by decide) ?_
      refine lv_istore_n (lv' := [(3, .int 1), (2, .int 0), (0, .ref a0), (1, .int a1)]) hx hb dX12_look_26 rfl hl (by decide) rfl (fun ls hl => ?_)
      have J27 : ∀ (n : Nat) (H : Heap) (locs : List Loc) (ls : Array Slot), (∃ (w27 : va_W) (p27_l2 : Int32) (p27_l3 : Int32), tW (dC, dI) tys κ B A s w27 H locs ∧ Sm [(12, 18), (12, 21), (12, 24)] [61, 62, 63, 64, 66, 70, 71] κ ws w27 ∧ 0 ≤ p27_l2.toInt ∧ p27_l2.toInt ≤ 60 ∧ 1 ≤ p27_l3.toInt ∧ p27_l3.toInt ≤ 61 ∧ fld w27 a0 12 20 (.ref f0) ∧ elt w27 f0 (10 : Int32).toInt.toNat v20d ∧ lv_has ls 4 [(0, .ref a0), (1, .int a1), (2, .int p27_l2), (3, .int p27_l3)] ∧ (61 - p27_l3.toInt).toNat = n) → W p l e (headSpec (ws_u yX12_look cX12_look 4 (some .int)) ({ frames := 10, cells := 0, slots := 0, locals := 234 })).room s m ([.ref a0, .int a1] : List Value).toArray below meth c H locs 0 0 QQ (F0 m 27 ls []) := by
        refine loopT _ ?_
        intro n_27 H locs ls hI ih_27
        obtain ⟨w27, p27_l2, p27_l3, hw, hM, l_p27_l2, h_p27_l2, l_p27_l3, h_p27_l3, f_a0_X12_20, f_f0_M_said_10, hl, hn_27⟩ := hI
        refine lv_iload_n hx hb dX12_look_27 rfl (lv_at hl 3 rfl) ?_
        refine lv_bipush (v := 60) hx hb dX12_look_28 (by decide) ?_
        refine lv_icmp_gt (tgt := 54) hx hb dX12_look_30 (by decide) (fun c_30 => ?_) (fun c_30 => ?_)
        · simp only [fa_lt, fa_le, fa_eq, li_60] at c_30
          refine lv_aload_n hx hb dX12_look_54 rfl (lv_at hl 0 rfl) ?_
          refine lv_iload_n hx hb dX12_look_55 rfl (lv_at hl 2 rfl) ?_
          refine t_calli (va_runV (As := [.int p27_l2]) (rest := []) ⟨hx, hb, hml, hown, hts⟩ (t_X12_alikeAt l dC dI tys κ B w27 hw.2.2.2.2 a0 k_a0 p27_l2 (by omega) (by omega) H.size) (cwV 1 hts (gUV tw_1719 tw_1721 ts_8_0 tw_13 tw_1722) rfl rfl rfl (by decide +kernel) ⟨(Nat.le_of_ble_eq_true rfl), (Nat.le_of_ble_eq_true rfl)⟩) ⟨cPre.blind, t_recv hw (ci := 12) k_a0 rfl rfl, cPre.use hw.2.1 hw.1 hw.2.2.1 hE⟩ rfl rfl hl.1 rfl (lv_room (Nat.le_of_ble_eq_true rfl)) dX12_look_56 ⟨(Nat.le_of_ble_eq_true rfl), (Nat.le_of_ble_eq_true rfl)⟩) hw hA (fun _ _ h => h.2.2.1) (fun v56 w_4 H locs hp hw => ?_)
          obtain ⟨l_v56, h_v56, _, hm⟩ := hp
          have hM := hM.trans hm (by decide) (by decide)
          have f_a0_X12_20 := hm.1 _ _ _ _ f_a0_X12_20 (by decide)
          have f_f0_M_said_10 := hm.elt k_f0 (by decide) f_f0_M_said_10
          refine lv_if_ne (tgt := 67) hx hb dX12_look_59 (by decide) (fun c_59 => ?_) (fun c_59 => ?_)
          · simp only [fa_lt, fa_le, fa_eq, li_0] at c_59
            refine lv_iload_n hx hb dX12_look_67 rfl (lv_at hl 1 rfl) ?_
            refine lv_if_ne (tgt := 75) hx hb dX12_look_68 (by decide) (fun c_68 => ?_) (fun c_68 => ?_)
            · simp only [fa_lt, fa_le, fa_eq, li_0] at c_68
              refine lv_aload_n hx hb dX12_look_75 rfl (lv_at hl 0 rfl) ?_
              refine lv_iload_n hx hb dX12_look_76 rfl (lv_at hl 2 rfl) ?_
              refine t_calli (va_runV (As := [.int p27_l2]) (rest := []) ⟨hx, hb, hml, hown, hts⟩ (t_X12_alikeAt l dC dI tys κ B w_4 hw.2.2.2.2 a0 k_a0 p27_l2 (by omega) (by omega) H.size) (cwV 1 hts (gUV tw_1719 tw_1721 ts_8_0 tw_13 tw_1722) rfl rfl rfl (by decide +kernel) ⟨(Nat.le_of_ble_eq_true rfl), (Nat.le_of_ble_eq_true rfl)⟩) ⟨cPre.blind, t_recv hw (ci := 12) k_a0 rfl rfl, cPre.use hw.2.1 hw.1 hw.2.2.1 hE⟩ rfl rfl hl.1 rfl (lv_room (Nat.le_of_ble_eq_true rfl)) dX12_look_77 ⟨(Nat.le_of_ble_eq_true rfl), (Nat.le_of_ble_eq_true rfl)⟩) hw hA (fun _ _ h => h.2.2.1) (fun v77 w_5 H locs hp hw => ?_)
              obtain ⟨l_v77, h_v77, _, hm⟩ := hp
              have hM := hM.trans hm (by decide) (by decide)
              have f_a0_X12_20 := hm.1 _ _ _ _ f_a0_X12_20 (by decide)
              have f_f0_M_said_10 := hm.elt k_f0 (by decide) f_f0_M_said_10
              rw [hQ]
              refine W.widen (k := 0) (n := 0) (Nat.le_refl _) (Nat.le_refl _) ?_
              exact W.iret (v := v77) hx hb hr (fun t ht hW => ⟨⟨v77, w_5, rfl, ⟨(by omega), (by omega), hw.2.2.2.2, hM, ⟨v20d, (by omega), (by omega), f_f0_M_said_10⟩⟩, by rw [ht]; exact hw.2.1, va_K.moved hW.alike hw.1, hw.2.2.1⟩, hw.2.2.2.1.F ht⟩) hw.2.2.2.1.2.2 dX12_look_80
            · simp only [fa_lt, fa_le, fa_eq, li_0] at c_68
              refine lv_iload_n hx hb dX12_look_71 rfl (lv_at hl 2 rfl) ?_
              refine lv_goto (tgt := 80) hx hb dX12_look_72 (by decide) ?_
              rw [hQ]
              refine W.widen (k := 0) (n := 0) (Nat.le_refl _) (Nat.le_refl _) ?_
              exact W.iret (v := p27_l2) hx hb hr (fun t ht hW => ⟨⟨p27_l2, w_4, rfl, ⟨(by omega), (by omega), hw.2.2.2.2, hM, ⟨v20d, (by omega), (by omega), f_f0_M_said_10⟩⟩, by rw [ht]; exact hw.2.1, va_K.moved hW.alike hw.1, hw.2.2.1⟩, hw.2.2.2.1.F ht⟩) hw.2.2.2.1.2.2 dX12_look_80
          · simp only [fa_lt, fa_le, fa_eq, li_0] at c_59
            refine lv_bipush (v := (-2)) hx hb dX12_look_62 (by decide) ?_
            refine lv_goto (tgt := 80) hx hb dX12_look_64 (by decide) ?_
            rw [hQ]
            refine W.widen (k := 0) (n := 0) (Nat.le_refl _) (Nat.le_refl _) ?_
            exact W.iret (v := (-2)) hx hb hr (fun t ht hW => ⟨⟨(-2), w_4, rfl, ⟨(by decide), (by decide), hw.2.2.2.2, hM, ⟨v20d, (by omega), (by omega), f_f0_M_said_10⟩⟩, by rw [ht]; exact hw.2.1, va_K.moved hW.alike hw.1, hw.2.2.1⟩, hw.2.2.2.1.F ht⟩) hw.2.2.2.1.2.2 dX12_look_80
        · simp only [fa_lt, fa_le, fa_eq, li_60] at c_30
          refine lv_aload_n hx hb dX12_look_33 rfl (lv_at hl 0 rfl) ?_
          refine lv_iload_n hx hb dX12_look_34 rfl (lv_at hl 3 rfl) ?_
          refine t_calli (va_runV (As := [.int p27_l3]) (rest := []) ⟨hx, hb, hml, hown, hts⟩ (t_X12_alikeAt l dC dI tys κ B w27 hw.2.2.2.2 a0 k_a0 p27_l3 (by omega) (by omega) H.size) (cwV 1 hts (gUV tw_1719 tw_1721 ts_8_0 tw_13 tw_1722) rfl rfl rfl (by decide +kernel) ⟨(Nat.le_of_ble_eq_true rfl), (Nat.le_of_ble_eq_true rfl)⟩) ⟨cPre.blind, t_recv hw (ci := 12) k_a0 rfl rfl, cPre.use hw.2.1 hw.1 hw.2.2.1 hE⟩ rfl rfl hl.1 rfl (lv_room (Nat.le_of_ble_eq_true rfl)) dX12_look_35 ⟨(Nat.le_of_ble_eq_true rfl), (Nat.le_of_ble_eq_true rfl)⟩) hw hA (fun _ _ h => h.2.2.1) (fun v35 w_6 H locs hp hw => ?_)
          obtain ⟨l_v35, h_v35, _, hm⟩ := hp
          have hM := hM.trans hm (by decide) (by decide)
          have f_a0_X12_20 := hm.1 _ _ _ _ f_a0_X12_20 (by decide)
          have f_f0_M_said_10 := hm.elt k_f0 (by decide) f_f0_M_said_10
          refine lv_aload_n hx hb dX12_look_38 rfl (lv_at hl 0 rfl) ?_
          refine lv_iload_n hx hb dX12_look_39 rfl (lv_at hl 2 rfl) ?_
          refine t_calli (va_runV (As := [.int p27_l2]) (rest := [.int v35]) ⟨hx, hb, hml, hown, hts⟩ (t_X12_alikeAt l dC dI tys κ B w_6 hw.2.2.2.2 a0 k_a0 p27_l2 (by omega) (by omega) H.size) (cwV 1 hts (gUV tw_1719 tw_1721 ts_8_0 tw_13 tw_1722) rfl rfl rfl (by decide +kernel) ⟨(Nat.le_of_ble_eq_true rfl), (Nat.le_of_ble_eq_true rfl)⟩) ⟨cPre.blind, t_recv hw (ci := 12) k_a0 rfl rfl, cPre.use hw.2.1 hw.1 hw.2.2.1 hE⟩ rfl rfl hl.1 rfl (lv_room (Nat.le_of_ble_eq_true rfl)) dX12_look_40 ⟨(Nat.le_of_ble_eq_true rfl), (Nat.le_of_ble_eq_true rfl)⟩) hw hA (fun _ _ h => h.2.2.1) (fun v40 w_7 H locs hp hw => ?_)
          obtain ⟨l_v40, h_v40, _, hm⟩ := hp
          have hM := hM.trans hm (by decide) (by decide)
          have f_a0_X12_20 := hm.1 _ _ _ _ f_a0_X12_20 (by decide)
          have f_f0_M_said_10 := hm.elt k_f0 (by decide) f_f0_M_said_10
          have J48 : ∀ (H : Heap) (locs : List Loc) (ls : Array Slot) (w48 : va_W) (p48_l2 : Int32), tW (dC, dI) tys κ B A s w48 H locs → Sm [(12, 18), (12, 21), (12, 24)] [61, 62, 63, 64, 66, 70, 71] κ ws w48 → 0 ≤ p48_l2.toInt → p48_l2.toInt ≤ 60 → fld w48 a0 12 20 (.ref f0) → elt w48 f0 (10 : Int32).toInt.toNat v20d → lv_has ls 4 [(0, .ref a0), (1, .int a1), (2, .int p48_l2), (3, .int p27_l3)] → W p l e (headSpec (ws_u yX12_look cX12_look 4 (some .int)) ({ frames := 10, cells := 0, slots := 0, locals := 234 })).room s m ([.ref a0, .int a1] : List Value).toArray below meth c H locs 0 0 QQ (F0 m 48 ls []) := by
            intro H locs ls w48 p48_l2 hw hM l_p48_l2 h_p48_l2 f_a0_X12_20 f_f0_M_said_10 hl
            obtain ⟨v48, e_v48⟩ : ∃ y : Int32, y = p27_l3 + 1 := ⟨_, rfl⟩
            refine lv_iinc (v := v48) (lv' := [(3, .int v48), (0, .ref a0), (1, .int a1), (2, .int p48_l2)]) hx hb dX12_look_48 hl (k := 3) rfl e_v48.symm (by decide) rfl (fun ls hl => ?_)
            have e_v48 : v48.toInt = p27_l3.toInt + 1 := ad_i e_v48 rfl li_1 (by omega) (by omega)
            refine lv_goto (tgt := 27) hx hb dX12_look_51 (by decide) ?_
            exact ih_27 _ _ _ _ (by omega) ⟨w48, p48_l2, v48, hw, hM, (by omega), (by omega), (by omega), (by omega), f_a0_X12_20, f_f0_M_said_10, (lv_sub hl [1, 2, 3, 0] rfl), rfl⟩
          refine lv_icmp_ge (tgt := 48) hx hb dX12_look_43 (by decide) (fun c_43 => ?_) (fun c_43 => ?_)
          · simp only [fa_lt, fa_le, fa_eq] at c_43
            exact J48 _ _ _ w_7 p27_l2 hw hM (by omega) (by omega) f_a0_X12_20 f_f0_M_said_10 (lv_sub hl [0, 1, 2, 3] rfl)
          · simp only [fa_lt, fa_le, fa_eq] at c_43
            refine lv_iload_n hx hb dX12_look_46 rfl (lv_at hl 3 rfl) ?_
            refine lv_istore_n (lv' := [(2, .int p27_l3), (0, .ref a0), (1, .int a1), (3, .int p27_l3)]) hx hb dX12_look_47 rfl hl (by decide) rfl (fun ls hl => ?_)
            exact J48 _ _ _ w_7 p27_l3 hw hM (by omega) (by omega) f_a0_X12_20 f_f0_M_said_10 (lv_sub hl [1, 2, 0, 3] rfl)
      exact J27 _ _ _ _ ⟨w_3, 0, 1, hw, hM, (by decide), (by decide), (by decide), (by decide), f_a0_X12_20, f_f0_M_said_10, (lv_sub hl [2, 3, 1, 0] rfl), rfl⟩
    · simp only [fa_lt, fa_le, fa_eq, li_0] at c_14
      refine lv_iconst (v := (-1)) hx hb dX12_look_17 (by decide) ?_
      rw [hQ]
      refine W.widen (k := 0) (n := 0) (Nat.le_refl _) (Nat.le_refl _) ?_
      exact W.iret (v := (-1)) hx hb hr (fun t ht hW => ⟨⟨(-1), w_2, rfl, ⟨(by decide), (by decide), hw.2.2.2.2, hM, ⟨f1, (by omega), (by omega), f_f0_M_said_10⟩⟩, by rw [ht]; exact hw.2.1, va_K.moved hW.alike hw.1, hw.2.2.1⟩, hw.2.2.2.1.F ht⟩) hw.2.2.2.1.2.2 dX12_look_18
set_option maxHeartbeats 4000000 in
set_option maxRecDepth 100000 in
theorem t_X12_method (l : Launch) (dC : Nat → ClassId) (dI : Nat → Nat → Nat) (tys : List (ClassId × FieldType)) (κ : tK) (B : Nat) (ws : va_W) (hT : Ty κ tys B ws) (a0 : Nat) (k_a0 : κ a0 = some 12) (a1 : Int32) (hRT : RT κ ws a0) (sz : Nat) : Met l yX12_method (ws_u yX12_method cX12_method 3 (some .int)) ({ frames := 5, cells := 0, slots := 0, locals := 122 }) (va_Pc [.ref a0, .int a1] (cPre (dC, dI) tys ws sz)) (va_Qi (fun (r : Int32) (w : va_W) => (-2) ≤ r.toInt ∧ r.toInt ≤ 5 ∧ Ty κ tys B w ∧ Sm [(12, 18)] [61, 62, 67] κ ws w) (fun w t => cPost (dC, dI) tys w (va_A ws sz) t) (va_A ws sz)) 0 0 (va_A ws sz) := by
  refine Met.ofW (cc := cX12_method) (maxL := 3) (ret := (some .int)) (by decide) rfl ?_
  intro p e s m args below meth c s₁ B0 hml hv
  obtain ⟨rfl, hsz, hP, hK, hD0, hE⟩ := hv
  have hx := B0.exec
  have hb := B0.bytes
  have hr := B0.returns
  have hts0 := atoms_spec (ws := ws_u yX12_method cX12_method 3 (some .int)) B0.pre
  have hts : ∀ w ∈ gT, w.before _ s = true := fun w h => hts0 w (List.mem_cons_of_mem _ h)
  have hown : s.vm.findClass RX12 = some m.cls := findClass_of_methodNamed B0.named
  have hlocks := B0.notSynchronized
  subst hsz
  have hD := hD0.self (sz := s.heap.size)
  generalize hAe : va_A ws s.heap.size = A at hD ⊢
  have hA : ∀ q : Nat, s.heap.size ≤ q → A q := fun q h => by rw [← hAe]; exact Or.inr h
  have hw : tW (dC, dI) tys κ B A s ws s.heap [] := ⟨hK, hP, hD, va_S.rf, hT⟩
  have hM : Sm [(12, 18)] [61, 62, 67] κ ws ws := Sm.rf
  clear hP hK hD hD0 hts0
  have l_a1 := i32_lo a1
  have h_a1 := i32_hi a1
  have hl := lv_entry ([.ref a0, .int a1]) (n := 3) (Nat.le_of_ble_eq_true rfl)
  rw [lg_entry_eq]
  generalize (lg_sl ([.ref a0, .int a1]) ++ List.replicate (3 - (lg_sl ([.ref a0, .int a1])).length) Slot.unset).toArray = ls at hl ⊢
  have hl : lv_has ls 3 [(0, .ref a0), (1, .int a1)] := hl
  refine t_start (fun QQ hQ => ?_)
  refine lv_aload_n hx hb dX12_method_0 rfl (lv_at hl 0 rfl) ?_
  refine t_calli (va_runV (As := []) (rest := []) ⟨hx, hb, hml, hown, hts⟩ (t_X12_isChoir l dC dI tys κ B ws hw.2.2.2.2 a0 k_a0 s.heap.size) (cwV 0 hts (gUV tw_1489 tw_1491 ts_5_12 tw_13 tw_1492) rfl rfl rfl (by decide +kernel) ⟨(Nat.le_of_ble_eq_true rfl), (Nat.le_of_ble_eq_true rfl)⟩) ⟨cPre.blind, t_recv hw (ci := 12) k_a0 rfl rfl, cPre.use hw.2.1 hw.1 hw.2.2.1 hE⟩ rfl rfl hl.1 rfl (lv_room (Nat.le_of_ble_eq_true rfl)) dX12_method_1 ⟨(Nat.le_of_ble_eq_true rfl), (Nat.le_of_ble_eq_true rfl)⟩) hw hA (fun _ _ h => h.2.2.1) (fun v1 w_1 H locs hp hw => ?_)
  obtain ⟨l_v1, h_v1, _, hm⟩ := hp
  have hM := hM.trans hm (by decide) (by decide)
  refine lv_if_eq (tgt := 19) hx hb dX12_method_4 (by decide) (fun c_4 => ?_) (fun c_4 => ?_)
  · simp only [fa_lt, fa_le, fa_eq, li_0] at c_4
    refine lv_bipush (v := (-2)) hx hb dX12_method_19 (by decide) ?_
    rw [hQ]
    refine W.widen (k := 0) (n := 0) (Nat.le_refl _) (Nat.le_refl _) ?_
    exact W.iret (v := (-2)) hx hb hr (fun t ht hW => ⟨⟨(-2), w_1, rfl, ⟨(by decide), (by decide), hw.2.2.2.2, hM⟩, by rw [ht]; exact hw.2.1, va_K.moved hW.alike hw.1, hw.2.2.1⟩, hw.2.2.2.1.F ht⟩) hw.2.2.2.1.2.2 dX12_method_21
  · simp only [fa_lt, fa_le, fa_eq, li_0] at c_4
    refine lv_iload_n hx hb dX12_method_7 rfl (lv_at hl 1 rfl) ?_
    refine lv_i2l hx hb dX12_method_8 rfl ?_
    refine lv_topl (fun v8 e_v8 => ?_)
    have t_v8 : v8.toInt = a1.toInt := by rw [e_v8, Int32.toInt_toInt64]
    refine lv_lconst (v := 0) hx hb dX12_method_9 (by decide) ?_
    obtain ⟨v9, e_v9⟩ : ∃ y : Int64, y = 0 := ⟨_, rfl⟩
    refine W.eq (g2 := F0 m 10 ls [.long v9, .long v8]) (by rw [e_v9]) ?_
    have t_v9 : v9.toInt = 0 := by rw [e_v9]; decide
    refine lv_ldc2 (v := 2) hx hb hown (hts _ tw_1597) dX12_method_10 ?_
    refine lv_topl (fun v10 e_v10 => ?_)
    have t_v10 : v10.toInt = 2 := by rw [e_v10]; decide
    refine t_calli (va_runS (As := [.long v8, .long v9, .long v10]) (rest := []) ⟨hx, hb, hml, hown, hts⟩ (t_X12_in l dC dI tys κ B w_1 hw.2.2.2.2 v8 v9 v10 H.size) (va_cwS 3 hts (gUS tw_1316 tw_1317 tw_13 tw_1318) rfl rfl rfl (by decide +kernel) ⟨(Nat.le_of_ble_eq_true rfl), (Nat.le_of_ble_eq_true rfl)⟩) ⟨cPre.blind, cPre.use hw.2.1 hw.1 hw.2.2.1 hE⟩ rfl rfl hl.1 rfl (lv_room (Nat.le_of_ble_eq_true rfl)) dX12_method_13 ⟨(Nat.le_of_ble_eq_true rfl), (Nat.le_of_ble_eq_true rfl)⟩) hw hA (fun _ _ h => h.2.2.1) (fun v13 w_2 H locs hp hw => ?_)
    obtain ⟨l_v13, h_v13, _, hm, x_v13_0⟩ := hp
    have hM := hM.trans hm (by decide) (by decide)
    refine lv_if_ne (tgt := 22) hx hb dX12_method_16 (by decide) (fun c_16 => ?_) (fun c_16 => ?_)
    · simp only [fa_lt, fa_le, fa_eq, li_0] at c_16
      refine lv_aload_n hx hb dX12_method_22 rfl (lv_at hl 0 rfl) ?_
      refine t_callv (va_runV (As := []) (rest := []) ⟨hx, hb, hml, hown, hts⟩ (t_X12_fillsWanted l dC dI tys κ B w_2 hw.2.2.2.2 a0 k_a0 (hRT.sm hM (by decide) (by decide)) H.size) (cwV 0 hts (gUV tw_1614 tw_1616 ts_7_2 tw_13 tw_1617) rfl rfl rfl (by decide +kernel) ⟨(Nat.le_of_ble_eq_true rfl), (Nat.le_of_ble_eq_true rfl)⟩) ⟨cPre.blind, t_recv hw (ci := 12) k_a0 rfl rfl, cPre.use hw.2.1 hw.1 hw.2.2.1 hE⟩ rfl rfl hl.1 rfl (lv_room (Nat.le_of_ble_eq_true rfl)) dX12_method_23 ⟨(Nat.le_of_ble_eq_true rfl), (Nat.le_of_ble_eq_true rfl)⟩) hw hA (fun _ h => h.1) (fun w_3 H locs hp hw => ?_)
      obtain ⟨_, hm⟩ := hp
      have hM := hM.trans hm (by decide) (by decide)
      refine lv_iload_n hx hb dX12_method_26 rfl (lv_at hl 1 rfl) ?_
      refine lv_if_ne (tgt := 35) hx hb dX12_method_27 (by decide) (fun c_27 => ?_) (fun c_27 => ?_)
      · simp only [fa_lt, fa_le, fa_eq, li_0] at c_27
        refine lv_iload_n hx hb dX12_method_35 rfl (lv_at hl 1 rfl) ?_
        refine lv_iconst (v := 2) hx hb dX12_method_36 (by decide) ?_
        refine lv_icmp_ne (tgt := 45) hx hb dX12_method_37 (by decide) (fun c_37 => ?_) (fun c_37 => ?_)
        · simp only [fa_lt, fa_le, fa_eq, li_2] at c_37
          refine lv_iconst (v := 0) hx hb dX12_method_45 (by decide) ?_
          refine lv_istore_n (lv' := [(2, .int 0), (0, .ref a0), (1, .int a1)]) hx hb dX12_method_46 rfl hl (by decide) rfl (fun ls hl => ?_)
          have J47 : ∀ (n : Nat) (H : Heap) (locs : List Loc) (ls : Array Slot), (∃ (w47 : va_W) (p47_l2 : Int32), tW (dC, dI) tys κ B A s w47 H locs ∧ Sm [(12, 18)] [61, 62, 67] κ ws w47 ∧ 0 ≤ p47_l2.toInt ∧ p47_l2.toInt ≤ 6 ∧ lv_has ls 3 [(0, .ref a0), (1, .int a1), (2, .int p47_l2)] ∧ (6 - p47_l2.toInt).toNat = n) → W p l e (headSpec (ws_u yX12_method cX12_method 3 (some .int)) ({ frames := 5, cells := 0, slots := 0, locals := 122 })).room s m ([.ref a0, .int a1] : List Value).toArray below meth c H locs 0 0 QQ (F0 m 47 ls []) := by
            refine loopT _ ?_
            intro n_47 H locs ls hI ih_47
            obtain ⟨w47, p47_l2, hw, hM, l_p47_l2, h_p47_l2, hl, hn_47⟩ := hI
            refine lv_iload_n hx hb dX12_method_47 rfl (lv_at hl 2 rfl) ?_
            refine lv_aload_n hx hb dX12_method_48 rfl (lv_at hl 0 rfl) ?_
            refine t_getr (k1 := 63) (ci := 12) (C := RX12) (T := TX12) (N := 38) hx hb hts iX12 hown hw k_a0 rfl rfl rfl 20 (by decide) (hts _ tw_1145) (fun _ h9 => h9) dX12_method_49 rfl (fun v49 k_v49 f_a0_X12_20 => ?_)
            refine lv_iconst (v := 3) hx hb dX12_method_52 (by decide) ?_
            refine t_iald hx hb hw k_v49 rfl rfl (by decide) (by decide) dX12_method_53 (fun v53 r_v53 s_v53 f_v49_M_said_3 => ?_)
            have l_v53 : 0 ≤ v53.toInt := by rw [iv_63_3] at r_v53; exact r_v53
            have h_v53 : v53.toInt ≤ 6 := by rw [iv_63_3] at s_v53; exact s_v53
            refine lv_icmp_ge (tgt := 81) hx hb dX12_method_54 (by decide) (fun c_54 => ?_) (fun c_54 => ?_)
            · simp only [fa_lt, fa_le, fa_eq] at c_54
              refine lv_iconst (v := (-1)) hx hb dX12_method_81 (by decide) ?_
              rw [hQ]
              refine W.widen (k := 0) (n := 0) (Nat.le_refl _) (Nat.le_refl _) ?_
              exact W.iret (v := (-1)) hx hb hr (fun t ht hW => ⟨⟨(-1), w47, rfl, ⟨(by decide), (by decide), hw.2.2.2.2, hM⟩, by rw [ht]; exact hw.2.1, va_K.moved hW.alike hw.1, hw.2.2.1⟩, hw.2.2.2.1.F ht⟩) hw.2.2.2.1.2.2 dX12_method_82
            · simp only [fa_lt, fa_le, fa_eq] at c_54
              refine lv_aload_n hx hb dX12_method_57 rfl (lv_at hl 0 rfl) ?_
              refine lv_iload_n hx hb dX12_method_58 rfl (lv_at hl 2 rfl) ?_
              refine t_calli (va_runV (As := [.int p47_l2]) (rest := []) ⟨hx, hb, hml, hown, hts⟩ (t_X12_isSound l dC dI tys κ B w47 hw.2.2.2.2 a0 k_a0 p47_l2 H.size) (cwV 1 hts (gUV tw_1517 tw_1519 ts_6_3 tw_13 tw_1520) rfl rfl rfl (by decide +kernel) ⟨(Nat.le_of_ble_eq_true rfl), (Nat.le_of_ble_eq_true rfl)⟩) ⟨cPre.blind, t_recv hw (ci := 12) k_a0 rfl rfl, cPre.use hw.2.1 hw.1 hw.2.2.1 hE⟩ rfl rfl hl.1 rfl (lv_room (Nat.le_of_ble_eq_true rfl)) dX12_method_59 ⟨(Nat.le_of_ble_eq_true rfl), (Nat.le_of_ble_eq_true rfl)⟩) hw hA (fun _ _ h => h.2.2.1) (fun v59 w_4 H locs hp hw => ?_)
              obtain ⟨l_v59, h_v59, _, hm, x_v59_0⟩ := hp
              have hM := hM.trans hm (by decide) (by decide)
              have f_a0_X12_20 := hm.1 _ _ _ _ f_a0_X12_20 (by decide)
              have f_v49_M_said_3 := hm.elt k_v49 (by decide) f_v49_M_said_3
              have J75 : ∀ (H : Heap) (locs : List Loc) (ls : Array Slot) (w75 : va_W), tW (dC, dI) tys κ B A s w75 H locs → Sm [(12, 18)] [61, 62, 67] κ ws w75 → fld w75 a0 12 20 (.ref v49) → elt w75 v49 (3 : Int32).toInt.toNat v53 → lv_has ls 3 [(0, .ref a0), (1, .int a1), (2, .int p47_l2)] → W p l e (headSpec (ws_u yX12_method cX12_method 3 (some .int)) ({ frames := 5, cells := 0, slots := 0, locals := 122 })).room s m ([.ref a0, .int a1] : List Value).toArray below meth c H locs 0 0 QQ (F0 m 75 ls []) := by
                intro H locs ls w75 hw hM f_a0_X12_20 f_v49_M_said_3 hl
                obtain ⟨v75, e_v75⟩ : ∃ y : Int32, y = p47_l2 + 1 := ⟨_, rfl⟩
                refine lv_iinc (v := v75) (lv' := [(2, .int v75), (0, .ref a0), (1, .int a1)]) hx hb dX12_method_75 hl (k := 2) rfl e_v75.symm (by decide) rfl (fun ls hl => ?_)
                have e_v75 : v75.toInt = p47_l2.toInt + 1 := ad_i e_v75 rfl li_1 (by omega) (by omega)
                refine lv_goto (tgt := 47) hx hb dX12_method_78 (by decide) ?_
                exact ih_47 _ _ _ _ (by omega) ⟨w75, v75, hw, hM, (by omega), (by omega), (lv_sub hl [1, 2, 0] rfl), rfl⟩
              refine lv_if_eq (tgt := 75) hx hb dX12_method_62 (by decide) (fun c_62 => ?_) (fun c_62 => ?_)
              · simp only [fa_lt, fa_le, fa_eq, li_0] at c_62
                exact J75 _ _ _ w_4 hw hM f_a0_X12_20 f_v49_M_said_3 (lv_sub hl [0, 1, 2] rfl)
              · simp only [fa_lt, fa_le, fa_eq, li_0] at c_62
                refine lv_aload_n hx hb dX12_method_65 rfl (lv_at hl 0 rfl) ?_
                refine lv_iload_n hx hb dX12_method_66 rfl (lv_at hl 2 rfl) ?_
                refine t_calli (va_runV (As := [.int p47_l2]) (rest := []) ⟨hx, hb, hml, hown, hts⟩ (t_X12_beatsEach l dC dI tys κ B w_4 hw.2.2.2.2 a0 k_a0 p47_l2 (by omega) (by omega) H.size) (cwV 1 hts (gUV tw_1644 tw_1646 ts_7_8 tw_13 tw_1647) rfl rfl rfl (by decide +kernel) ⟨(Nat.le_of_ble_eq_true rfl), (Nat.le_of_ble_eq_true rfl)⟩) ⟨cPre.blind, t_recv hw (ci := 12) k_a0 rfl rfl, cPre.use hw.2.1 hw.1 hw.2.2.1 hE⟩ rfl rfl hl.1 rfl (lv_room (Nat.le_of_ble_eq_true rfl)) dX12_method_67 ⟨(Nat.le_of_ble_eq_true rfl), (Nat.le_of_ble_eq_true rfl)⟩) hw hA (fun _ _ h => h.2.2.1) (fun v67 w_5 H locs hp hw => ?_)
                obtain ⟨l_v67, h_v67, _, hm⟩ := hp
                have hM := hM.trans hm (by decide) (by decide)
                have f_a0_X12_20 := hm.1 _ _ _ _ f_a0_X12_20 (by decide)
                have f_v49_M_said_3 := hm.elt k_v49 (by decide) f_v49_M_said_3
                refine lv_if_eq (tgt := 75) hx hb dX12_method_70 (by decide) (fun c_70 => ?_) (fun c_70 => ?_)
                · simp only [fa_lt, fa_le, fa_eq, li_0] at c_70
                  exact J75 _ _ _ w_5 hw hM f_a0_X12_20 f_v49_M_said_3 (lv_sub hl [0, 1, 2] rfl)
                · simp only [fa_lt, fa_le, fa_eq, li_0] at c_70
                  refine lv_iload_n hx hb dX12_method_73 rfl (lv_at hl 2 rfl) ?_
                  rw [hQ]
                  refine W.widen (k := 0) (n := 0) (Nat.le_refl _) (Nat.le_refl _) ?_
                  exact W.iret (v := p47_l2) hx hb hr (fun t ht hW => ⟨⟨p47_l2, w_5, rfl, ⟨(by omega), (by omega), hw.2.2.2.2, hM⟩, by rw [ht]; exact hw.2.1, va_K.moved hW.alike hw.1, hw.2.2.1⟩, hw.2.2.2.1.F ht⟩) hw.2.2.2.1.2.2 dX12_method_74
          exact J47 _ _ _ _ ⟨w_3, 0, hw, hM, (by decide), (by decide), (lv_sub hl [1, 2, 0] rfl), rfl⟩
        · simp only [fa_lt, fa_le, fa_eq, li_2] at c_37
          refine lv_aload_n hx hb dX12_method_40 rfl (lv_at hl 0 rfl) ?_
          obtain ⟨u_v41q0, q_v41q0, f_a0_X12_20⟩ := t_peek (k := 20) hw.2.2.2.2 k_a0 rfl (by decide)
          obtain ⟨v41q0, rfl, k_v41q0⟩ := q_v41q0.getr (k := 63) rfl
          obtain ⟨v41q1, r_v41q1, s_v41q1, f_v41q0_M_said_3⟩ := t_peeke (i := (3 : Int32)) hw.2.2.2.2 k_v41q0 rfl (by decide)
          have l_v41q1 : 0 ≤ v41q1.toInt := by rw [iv_63_3] at r_v41q1; exact r_v41q1
          have h_v41q1 : v41q1.toInt ≤ 6 := by rw [iv_63_3] at s_v41q1; exact s_v41q1
          refine t_calli (va_runV (As := []) (rest := []) ⟨hx, hb, hml, hown, hts⟩ (t_X12_byLast l dC dI tys κ B w_3 hw.2.2.2.2 a0 k_a0 v41q0 k_v41q0 f_a0_X12_20 v41q1 (by omega) (by omega) f_v41q0_M_said_3 H.size) (cwV 0 hts (gUV tw_1630 tw_1632 ts_7_6 tw_13 tw_1633) rfl rfl rfl (by decide +kernel) ⟨(Nat.le_of_ble_eq_true rfl), (Nat.le_of_ble_eq_true rfl)⟩) ⟨cPre.blind, t_recv hw (ci := 12) k_a0 rfl rfl, cPre.use hw.2.1 hw.1 hw.2.2.1 hE⟩ rfl rfl hl.1 rfl (lv_room (Nat.le_of_ble_eq_true rfl)) dX12_method_41 ⟨(Nat.le_of_ble_eq_true rfl), (Nat.le_of_ble_eq_true rfl)⟩) hw hA (fun _ _ h => h.2.2.1) (fun v41 w_6 H locs hp hw => ?_)
          obtain ⟨l_v41, h_v41, _, hm⟩ := hp
          have hM := hM.trans hm (by decide) (by decide)
          have f_a0_X12_20 := hm.1 _ _ _ _ f_a0_X12_20 (by decide)
          have f_v41q0_M_said_3 := hm.elt k_v41q0 (by decide) f_v41q0_M_said_3
          rw [hQ]
          refine W.widen (k := 0) (n := 0) (Nat.le_refl _) (Nat.le_refl _) ?_
          exact W.iret (v := v41) hx hb hr (fun t ht hW => ⟨⟨v41, w_6, rfl, ⟨(by omega), (by omega), hw.2.2.2.2, hM⟩, by rw [ht]; exact hw.2.1, va_K.moved hW.alike hw.1, hw.2.2.1⟩, hw.2.2.2.1.F ht⟩) hw.2.2.2.1.2.2 dX12_method_44
      · simp only [fa_lt, fa_le, fa_eq, li_0] at c_27
        refine lv_aload_n hx hb dX12_method_30 rfl (lv_at hl 0 rfl) ?_
        refine t_calli (va_runV (As := []) (rest := []) ⟨hx, hb, hml, hown, hts⟩ (t_X12_byPoints l dC dI tys κ B w_3 hw.2.2.2.2 a0 k_a0 H.size) (cwV 0 hts (gUV tw_1618 tw_1620 ts_7_3 tw_13 tw_1621) rfl rfl rfl (by decide +kernel) ⟨(Nat.le_of_ble_eq_true rfl), (Nat.le_of_ble_eq_true rfl)⟩) ⟨cPre.blind, t_recv hw (ci := 12) k_a0 rfl rfl, cPre.use hw.2.1 hw.1 hw.2.2.1 hE⟩ rfl rfl hl.1 rfl (lv_room (Nat.le_of_ble_eq_true rfl)) dX12_method_31 ⟨(Nat.le_of_ble_eq_true rfl), (Nat.le_of_ble_eq_true rfl)⟩) hw hA (fun _ _ h => h.2.2.1) (fun v31 w_7 H locs hp hw => ?_)
        obtain ⟨l_v31, h_v31, _, hm⟩ := hp
        have hM := hM.trans hm (by decide) (by decide)
        rw [hQ]
        refine W.widen (k := 0) (n := 0) (Nat.le_refl _) (Nat.le_refl _) ?_
        exact W.iret (v := v31) hx hb hr (fun t ht hW => ⟨⟨v31, w_7, rfl, ⟨(by omega), (by omega), hw.2.2.2.2, hM⟩, by rw [ht]; exact hw.2.1, va_K.moved hW.alike hw.1, hw.2.2.1⟩, hw.2.2.2.1.F ht⟩) hw.2.2.2.1.2.2 dX12_method_34
    · simp only [fa_lt, fa_le, fa_eq, li_0] at c_16
      refine lv_bipush (v := (-2)) hx hb dX12_method_19 (by decide) ?_
      rw [hQ]
      refine W.widen (k := 0) (n := 0) (Nat.le_refl _) (Nat.le_refl _) ?_
      exact W.iret (v := (-2)) hx hb hr (fun t ht hW => ⟨⟨(-2), w_2, rfl, ⟨(by decide), (by decide), hw.2.2.2.2, hM⟩, by rw [ht]; exact hw.2.1, va_K.moved hW.alike hw.1, hw.2.2.1⟩, hw.2.2.2.1.F ht⟩) hw.2.2.2.1.2.2 dX12_method_21
set_option maxHeartbeats 4000000 in
set_option maxRecDepth 100000 in
theorem t_X12_rests (l : Launch) (dC : Nat → ClassId) (dI : Nat → Nat → Nat) (tys : List (ClassId × FieldType)) (κ : tK) (B : Nat) (ws : va_W) (hT : Ty κ tys B ws) (a0 : Nat) (k_a0 : κ a0 = some 12) (a1 : Int32) (a2 : Int32) (a3 : Int32) (f0 : Nat) (k_f0 : κ f0 = some 63) (f_a0_X12_20 : fld ws a0 12 20 (.ref f0)) (f1 : Int32) (l_f1 : 0 ≤ f1.toInt) (h_f1 : f1.toInt ≤ 999) (f_f0_M_said_10 : elt ws f0 (10 : Int32).toInt.toNat f1) (hRT : RT κ ws a0) (sz : Nat) : Met l yX12_rests (ws_u yX12_rests cX12_rests 7 (some .int)) ({ frames := 7, cells := 0, slots := 0, locals := 168 }) (va_Pc [.ref a0, .int a1, .int a2, .int a3] (cPre (dC, dI) tys ws sz)) (va_Qi (fun (r : Int32) (w : va_W) => Ty κ tys B w ∧ Sm [(12, 18)] [61, 62, 63, 64, 66, 68] κ ws w ∧ (∃ (xd : Int32), 0 ≤ xd.toInt ∧ xd.toInt ≤ 999 ∧ elt w f0 (10 : Int32).toInt.toNat xd)) (fun w t => cPost (dC, dI) tys w (va_A ws sz) t) (va_A ws sz)) 0 0 (va_A ws sz) := by
  refine Met.ofW (cc := cX12_rests) (maxL := 7) (ret := (some .int)) (by decide) rfl ?_
  intro p e s m args below meth c s₁ B0 hml hv
  obtain ⟨rfl, hsz, hP, hK, hD0, hE⟩ := hv
  have hx := B0.exec
  have hb := B0.bytes
  have hr := B0.returns
  have hts0 := atoms_spec (ws := ws_u yX12_rests cX12_rests 7 (some .int)) B0.pre
  have hts : ∀ w ∈ gT, w.before _ s = true := fun w h => hts0 w (List.mem_cons_of_mem _ h)
  have hown : s.vm.findClass RX12 = some m.cls := findClass_of_methodNamed B0.named
  have hlocks := B0.notSynchronized
  subst hsz
  have hD := hD0.self (sz := s.heap.size)
  generalize hAe : va_A ws s.heap.size = A at hD ⊢
  have hA : ∀ q : Nat, s.heap.size ≤ q → A q := fun q h => by rw [← hAe]; exact Or.inr h
  have hw : tW (dC, dI) tys κ B A s ws s.heap [] := ⟨hK, hP, hD, va_S.rf, hT⟩
  have hM : Sm [(12, 18)] [61, 62, 63, 64, 66, 68] κ ws ws := Sm.rf
  clear hP hK hD hD0 hts0
  have l_a1 := i32_lo a1
  have h_a1 := i32_hi a1
  have l_a2 := i32_lo a2
  have h_a2 := i32_hi a2
  have l_a3 := i32_lo a3
  have h_a3 := i32_hi a3
  have hl := lv_entry ([.ref a0, .int a1, .int a2, .int a3]) (n := 7) (Nat.le_of_ble_eq_true rfl)
  rw [lg_entry_eq]
  generalize (lg_sl ([.ref a0, .int a1, .int a2, .int a3]) ++ List.replicate (7 - (lg_sl ([.ref a0, .int a1, .int a2, .int a3])).length) Slot.unset).toArray = ls at hl ⊢
  have hl : lv_has ls 7 [(0, .ref a0), (1, .int a1), (2, .int a2), (3, .int a3)] := hl
  refine t_start (fun QQ hQ => ?_)
  refine lv_aload_n hx hb dX12_rests_0 rfl (lv_at hl 0 rfl) ?_
  refine lv_iload_n hx hb dX12_rests_1 rfl (lv_at hl 1 rfl) ?_
  refine t_calli (va_runV (As := [.int a1]) (rest := []) ⟨hx, hb, hml, hown, hts⟩ (t_X12_isSound l dC dI tys κ B ws hw.2.2.2.2 a0 k_a0 a1 s.heap.size) (cwV 1 hts (gUV tw_1517 tw_1519 ts_6_3 tw_13 tw_1520) rfl rfl rfl (by decide +kernel) ⟨(Nat.le_of_ble_eq_true rfl), (Nat.le_of_ble_eq_true rfl)⟩) ⟨cPre.blind, t_recv hw (ci := 12) k_a0 rfl rfl, cPre.use hw.2.1 hw.1 hw.2.2.1 hE⟩ rfl rfl hl.1 rfl (lv_room (Nat.le_of_ble_eq_true rfl)) dX12_rests_2 ⟨(Nat.le_of_ble_eq_true rfl), (Nat.le_of_ble_eq_true rfl)⟩) hw hA (fun _ _ h => h.2.2.1) (fun v2 w_1 H locs hp hw => ?_)
  obtain ⟨l_v2, h_v2, _, hm, x_v2_0⟩ := hp
  have hM := hM.trans hm (by decide) (by decide)
  have f_a0_X12_20 := hm.1 _ _ _ _ f_a0_X12_20 (by decide)
  have f_f0_M_said_10 := hm.elt k_f0 (by decide) f_f0_M_said_10
  refine lv_if_eq (tgt := 33) hx hb dX12_rests_5 (by decide) (fun c_5 => ?_) (fun c_5 => ?_)
  · simp only [fa_lt, fa_le, fa_eq, li_0] at c_5
    refine lv_iconst (v := (-1)) hx hb dX12_rests_33 (by decide) ?_
    rw [hQ]
    refine W.widen (k := 0) (n := 0) (Nat.le_refl _) (Nat.le_refl _) ?_
    exact W.iret (v := (-1)) hx hb hr (fun t ht hW => ⟨⟨(-1), w_1, rfl, ⟨hw.2.2.2.2, hM, ⟨f1, (by omega), (by omega), f_f0_M_said_10⟩⟩, by rw [ht]; exact hw.2.1, va_K.moved hW.alike hw.1, hw.2.2.1⟩, hw.2.2.2.1.F ht⟩) hw.2.2.2.1.2.2 dX12_rests_34
  · simp only [fa_lt, fa_le, fa_eq, li_0] at c_5
    refine lv_aload_n hx hb dX12_rests_8 rfl (lv_at hl 0 rfl) ?_
    refine lv_iload_n hx hb dX12_rests_9 rfl (lv_at hl 2 rfl) ?_
    refine t_calli (va_runV (As := [.int a2]) (rest := []) ⟨hx, hb, hml, hown, hts⟩ (t_X12_isSound l dC dI tys κ B w_1 hw.2.2.2.2 a0 k_a0 a2 H.size) (cwV 1 hts (gUV tw_1517 tw_1519 ts_6_3 tw_13 tw_1520) rfl rfl rfl (by decide +kernel) ⟨(Nat.le_of_ble_eq_true rfl), (Nat.le_of_ble_eq_true rfl)⟩) ⟨cPre.blind, t_recv hw (ci := 12) k_a0 rfl rfl, cPre.use hw.2.1 hw.1 hw.2.2.1 hE⟩ rfl rfl hl.1 rfl (lv_room (Nat.le_of_ble_eq_true rfl)) dX12_rests_10 ⟨(Nat.le_of_ble_eq_true rfl), (Nat.le_of_ble_eq_true rfl)⟩) hw hA (fun _ _ h => h.2.2.1) (fun v10 w_2 H locs hp hw => ?_)
    obtain ⟨l_v10, h_v10, _, hm, x_v10_0⟩ := hp
    have hM := hM.trans hm (by decide) (by decide)
    have f_a0_X12_20 := hm.1 _ _ _ _ f_a0_X12_20 (by decide)
    have f_f0_M_said_10 := hm.elt k_f0 (by decide) f_f0_M_said_10
    refine lv_if_eq (tgt := 33) hx hb dX12_rests_13 (by decide) (fun c_13 => ?_) (fun c_13 => ?_)
    · simp only [fa_lt, fa_le, fa_eq, li_0] at c_13
      refine lv_iconst (v := (-1)) hx hb dX12_rests_33 (by decide) ?_
      rw [hQ]
      refine W.widen (k := 0) (n := 0) (Nat.le_refl _) (Nat.le_refl _) ?_
      exact W.iret (v := (-1)) hx hb hr (fun t ht hW => ⟨⟨(-1), w_2, rfl, ⟨hw.2.2.2.2, hM, ⟨f1, (by omega), (by omega), f_f0_M_said_10⟩⟩, by rw [ht]; exact hw.2.1, va_K.moved hW.alike hw.1, hw.2.2.1⟩, hw.2.2.2.1.F ht⟩) hw.2.2.2.1.2.2 dX12_rests_34
    · simp only [fa_lt, fa_le, fa_eq, li_0] at c_13
      refine lv_iload_n hx hb dX12_rests_16 rfl (lv_at hl 1 rfl) ?_
      refine lv_iload_n hx hb dX12_rests_17 rfl (lv_at hl 2 rfl) ?_
      refine lv_icmp_eq (tgt := 33) hx hb dX12_rests_18 (by decide) (fun c_18 => ?_) (fun c_18 => ?_)
      · simp only [fa_lt, fa_le, fa_eq] at c_18
        refine lv_iconst (v := (-1)) hx hb dX12_rests_33 (by decide) ?_
        rw [hQ]
        refine W.widen (k := 0) (n := 0) (Nat.le_refl _) (Nat.le_refl _) ?_
        exact W.iret (v := (-1)) hx hb hr (fun t ht hW => ⟨⟨(-1), w_2, rfl, ⟨hw.2.2.2.2, hM, ⟨f1, (by omega), (by omega), f_f0_M_said_10⟩⟩, by rw [ht]; exact hw.2.1, va_K.moved hW.alike hw.1, hw.2.2.1⟩, hw.2.2.2.1.F ht⟩) hw.2.2.2.1.2.2 dX12_rests_34
      · simp only [fa_lt, fa_le, fa_eq] at c_18
        refine lv_iload_n hx hb dX12_rests_21 rfl (lv_at hl 3 rfl) ?_
        refine lv_i2l hx hb dX12_rests_22 rfl ?_
        refine lv_topl (fun v22 e_v22 => ?_)
        have t_v22 : v22.toInt = a3.toInt := by rw [e_v22, Int32.toInt_toInt64]
        refine lv_lconst (v := 0) hx hb dX12_rests_23 (by decide) ?_
        obtain ⟨v23, e_v23⟩ : ∃ y : Int64, y = 0 := ⟨_, rfl⟩
        refine W.eq (g2 := F0 m 24 ls [.long v23, .long v22]) (by rw [e_v23]) ?_
        have t_v23 : v23.toInt = 0 := by rw [e_v23]; decide
        refine lv_ldc2 (v := 2) hx hb hown (hts _ tw_1597) dX12_rests_24 ?_
        refine lv_topl (fun v24 e_v24 => ?_)
        have t_v24 : v24.toInt = 2 := by rw [e_v24]; decide
        refine t_calli (va_runS (As := [.long v22, .long v23, .long v24]) (rest := []) ⟨hx, hb, hml, hown, hts⟩ (t_X12_in l dC dI tys κ B w_2 hw.2.2.2.2 v22 v23 v24 H.size) (va_cwS 3 hts (gUS tw_1316 tw_1317 tw_13 tw_1318) rfl rfl rfl (by decide +kernel) ⟨(Nat.le_of_ble_eq_true rfl), (Nat.le_of_ble_eq_true rfl)⟩) ⟨cPre.blind, cPre.use hw.2.1 hw.1 hw.2.2.1 hE⟩ rfl rfl hl.1 rfl (lv_room (Nat.le_of_ble_eq_true rfl)) dX12_rests_27 ⟨(Nat.le_of_ble_eq_true rfl), (Nat.le_of_ble_eq_true rfl)⟩) hw hA (fun _ _ h => h.2.2.1) (fun v27 w_3 H locs hp hw => ?_)
        obtain ⟨l_v27, h_v27, _, hm, x_v27_0⟩ := hp
        have hM := hM.trans hm (by decide) (by decide)
        have f_a0_X12_20 := hm.1 _ _ _ _ f_a0_X12_20 (by decide)
        have f_f0_M_said_10 := hm.elt k_f0 (by decide) f_f0_M_said_10
        refine lv_if_ne (tgt := 35) hx hb dX12_rests_30 (by decide) (fun c_30 => ?_) (fun c_30 => ?_)
        · simp only [fa_lt, fa_le, fa_eq, li_0] at c_30
          refine lv_aload_n hx hb dX12_rests_35 rfl (lv_at hl 0 rfl) ?_
          refine t_callv (va_runV (As := []) (rest := []) ⟨hx, hb, hml, hown, hts⟩ (t_X12_keeps l dC dI tys κ B w_3 hw.2.2.2.2 a0 k_a0 f0 k_f0 f_a0_X12_20 f1 (by omega) (by omega) f_f0_M_said_10 H.size) (cwV 0 hts (gUV tw_1598 tw_1600 ts_7_0 tw_13 tw_1601) rfl rfl rfl (by decide +kernel) ⟨(Nat.le_of_ble_eq_true rfl), (Nat.le_of_ble_eq_true rfl)⟩) ⟨cPre.blind, t_recv hw (ci := 12) k_a0 rfl rfl, cPre.use hw.2.1 hw.1 hw.2.2.1 hE⟩ rfl rfl hl.1 rfl (lv_room (Nat.le_of_ble_eq_true rfl)) dX12_rests_36 ⟨(Nat.le_of_ble_eq_true rfl), (Nat.le_of_ble_eq_true rfl)⟩) hw hA (fun _ h => h.1) (fun w_4 H locs hp hw => ?_)
          obtain ⟨_, hm⟩ := hp
          have hM := hM.trans hm (by decide) (by decide)
          have f_a0_X12_20 := hm.1 _ _ _ _ f_a0_X12_20 (by decide)
          have f_f0_M_said_10 := hm.elt k_f0 (by decide) f_f0_M_said_10
          refine lv_iconst (v := 0) hx hb dX12_rests_39 (by decide) ?_
          refine lv_istore (lv' := [(4, .int 0), (0, .ref a0), (1, .int a1), (2, .int a2), (3, .int a3)]) hx hb dX12_rests_40 hl (by decide) rfl (fun ls hl => ?_)
          have J42 : ∀ (n : Nat) (H : Heap) (locs : List Loc) (ls : Array Slot), (∃ (w42 : va_W) (p42_l4 : Int32), tW (dC, dI) tys κ B A s w42 H locs ∧ Sm [(12, 18)] [61, 62, 63, 64, 66, 68] κ ws w42 ∧ 0 ≤ p42_l4.toInt ∧ p42_l4.toInt ≤ 25 ∧ fld w42 a0 12 20 (.ref f0) ∧ elt w42 f0 (10 : Int32).toInt.toNat f1 ∧ lv_has ls 7 [(0, .ref a0), (1, .int a1), (2, .int a2), (3, .int a3), (4, .int p42_l4)] ∧ (25 - p42_l4.toInt).toNat = n) → W p l e (headSpec (ws_u yX12_rests cX12_rests 7 (some .int)) ({ frames := 7, cells := 0, slots := 0, locals := 168 })).room s m ([.ref a0, .int a1, .int a2, .int a3] : List Value).toArray below meth c H locs 0 0 QQ (F0 m 42 ls []) := by
            refine loopT _ ?_
            intro n_42 H locs ls hI ih_42
            obtain ⟨w42, p42_l4, hw, hM, l_p42_l4, h_p42_l4, f_a0_X12_20, f_f0_M_said_10, hl, hn_42⟩ := hI
            refine lv_iload hx hb dX12_rests_42 (lv_at hl 4 rfl) ?_
            refine lv_bipush (v := 25) hx hb dX12_rests_44 (by decide) ?_
            refine lv_icmp_ge (tgt := 104) hx hb dX12_rests_46 (by decide) (fun c_46 => ?_) (fun c_46 => ?_)
            · simp only [fa_lt, fa_le, fa_eq, li_25] at c_46
              refine lv_aload_n hx hb dX12_rests_104 rfl (lv_at hl 0 rfl) ?_
              refine t_callv (va_runV (As := []) (rest := []) ⟨hx, hb, hml, hown, hts⟩ (t_X12_laysBack l dC dI tys κ B w42 hw.2.2.2.2 a0 k_a0 f0 k_f0 f_a0_X12_20 H.size) (cwV 0 hts (gUV tw_1602 tw_1604 ts_7_1 tw_13 tw_1605) rfl rfl rfl (by decide +kernel) ⟨(Nat.le_of_ble_eq_true rfl), (Nat.le_of_ble_eq_true rfl)⟩) ⟨cPre.blind, t_recv hw (ci := 12) k_a0 rfl rfl, cPre.use hw.2.1 hw.1 hw.2.2.1 hE⟩ rfl rfl hl.1 rfl (lv_room (Nat.le_of_ble_eq_true rfl)) dX12_rests_105 ⟨(Nat.le_of_ble_eq_true rfl), (Nat.le_of_ble_eq_true rfl)⟩) hw hA (fun _ h => h.1) (fun w_5 H locs hp hw => ?_)
              obtain ⟨_, hm, ⟨v105d, l_v105d, h_v105d, f_f0_M_said_10⟩⟩ := hp
              have hM := hM.trans hm (by decide) (by decide)
              have f_a0_X12_20 := hm.1 _ _ _ _ f_a0_X12_20 (by decide)
              refine lv_iconst (v := 0) hx hb dX12_rests_108 (by decide) ?_
              refine lv_istore (lv' := [(4, .int 0), (0, .ref a0), (1, .int a1), (2, .int a2), (3, .int a3)]) hx hb dX12_rests_109 hl (by decide) rfl (fun ls hl => ?_)
              refine lv_iconst (v := (-1)) hx hb dX12_rests_111 (by decide) ?_
              refine lv_istore (lv' := [(5, .int (-1)), (4, .int 0), (0, .ref a0), (1, .int a1), (2, .int a2), (3, .int a3)]) hx hb dX12_rests_112 hl (by decide) rfl (fun ls hl => ?_)
              refine lv_iconst (v := 0) hx hb dX12_rests_114 (by decide) ?_
              refine lv_istore (lv' := [(6, .int 0), (5, .int (-1)), (4, .int 0), (0, .ref a0), (1, .int a1), (2, .int a2), (3, .int a3)]) hx hb dX12_rests_115 hl (by decide) rfl (fun ls hl => ?_)
              have J117 : ∀ (n : Nat) (H : Heap) (locs : List Loc) (ls : Array Slot), (∃ (w117 : va_W) (p117_l4 : Int32) (p117_l5 : Int32) (p117_l6 : Int32), tW (dC, dI) tys κ B A s w117 H locs ∧ Sm [(12, 18)] [61, 62, 63, 64, 66, 68] κ ws w117 ∧ (-2147483648) ≤ p117_l4.toInt ∧ p117_l4.toInt ≤ 2147483647 ∧ (-1) ≤ p117_l5.toInt ∧ p117_l5.toInt ≤ 24 ∧ 0 ≤ p117_l6.toInt ∧ p117_l6.toInt ≤ 25 ∧ fld w117 a0 12 20 (.ref f0) ∧ elt w117 f0 (10 : Int32).toInt.toNat v105d ∧ lv_has ls 7 [(0, .ref a0), (1, .int a1), (2, .int a2), (3, .int a3), (4, .int p117_l4), (5, .int p117_l5), (6, .int p117_l6)] ∧ (25 - p117_l6.toInt).toNat = n) → W p l e (headSpec (ws_u yX12_rests cX12_rests 7 (some .int)) ({ frames := 7, cells := 0, slots := 0, locals := 168 })).room s m ([.ref a0, .int a1, .int a2, .int a3] : List Value).toArray below meth c H locs 0 0 QQ (F0 m 117 ls []) := by
                refine loopT _ ?_
                intro n_117 H locs ls hI ih_117
                obtain ⟨w117, p117_l4, p117_l5, p117_l6, hw, hM, l_p117_l4, h_p117_l4, l_p117_l5, h_p117_l5, l_p117_l6, h_p117_l6, f_a0_X12_20, f_f0_M_said_10, hl, hn_117⟩ := hI
                refine lv_iload hx hb dX12_rests_117 (lv_at hl 6 rfl) ?_
                refine lv_bipush (v := 25) hx hb dX12_rests_119 (by decide) ?_
                refine lv_icmp_ge (tgt := 162) hx hb dX12_rests_121 (by decide) (fun c_121 => ?_) (fun c_121 => ?_)
                · simp only [fa_lt, fa_le, fa_eq, li_25] at c_121
                  refine lv_iload_n hx hb dX12_rests_162 rfl (lv_at hl 3 rfl) ?_
                  refine lv_if_ne (tgt := 169) hx hb dX12_rests_163 (by decide) (fun c_163 => ?_) (fun c_163 => ?_)
                  · simp only [fa_lt, fa_le, fa_eq, li_0] at c_163
                    refine lv_iload hx hb dX12_rests_169 (lv_at hl 5 rfl) ?_
                    refine lv_if_ge (tgt := 179) hx hb dX12_rests_171 (by decide) (fun c_171 => ?_) (fun c_171 => ?_)
                    · simp only [fa_lt, fa_le, fa_eq, li_0] at c_171
                      refine lv_iload_n hx hb dX12_rests_179 rfl (lv_at hl 3 rfl) ?_
                      refine lv_iconst (v := 1) hx hb dX12_rests_180 (by decide) ?_
                      refine lv_icmp_ne (tgt := 193) hx hb dX12_rests_181 (by decide) (fun c_181 => ?_) (fun c_181 => ?_)
                      · simp only [fa_lt, fa_le, fa_eq, li_1] at c_181
                        refine lv_iload hx hb dX12_rests_193 (lv_at hl 5 rfl) ?_
                        refine lv_iconst (v := 5) hx hb dX12_rests_195 (by decide) ?_
                        refine lv_irem hx hb dX12_rests_196 (ne_i li_5 (by decide)) ?_
                        refine lv_topi (fun v196 e_v196 => ?_)
                        have e_v196 : v196.toInt = p117_l5.toInt % 5 := rm_i e_v196 rfl li_5 (by omega) (by decide)
                        refine lv_iconst (v := 5) hx hb dX12_rests_197 (by decide) ?_
                        refine lv_imul hx hb dX12_rests_198 ?_
                        refine lv_topi (fun v198 e_v198 => ?_)
                        have e_v198 : v198.toInt = v196.toInt * 5 := ml_i e_v198 rfl li_5 (by omega) (by omega)
                        rw [hQ]
                        refine W.widen (k := 0) (n := 0) (Nat.le_refl _) (Nat.le_refl _) ?_
                        exact W.iret (v := v198) hx hb hr (fun t ht hW => ⟨⟨v198, w117, rfl, ⟨hw.2.2.2.2, hM, ⟨v105d, (by omega), (by omega), f_f0_M_said_10⟩⟩, by rw [ht]; exact hw.2.1, va_K.moved hW.alike hw.1, hw.2.2.1⟩, hw.2.2.2.1.F ht⟩) hw.2.2.2.1.2.2 dX12_rests_199
                      · simp only [fa_lt, fa_le, fa_eq, li_1] at c_181
                        refine lv_iload hx hb dX12_rests_184 (lv_at hl 5 rfl) ?_
                        refine lv_iconst (v := 5) hx hb dX12_rests_186 (by decide) ?_
                        refine lv_idiv hx hb dX12_rests_187 (ne_i li_5 (by decide)) ?_
                        refine lv_topi (fun v187 e_v187 => ?_)
                        have e_v187 : v187.toInt = p117_l5.toInt / 5 := dv_i e_v187 rfl li_5 (by omega) (by decide)
                        refine lv_iconst (v := 5) hx hb dX12_rests_188 (by decide) ?_
                        refine lv_imul hx hb dX12_rests_189 ?_
                        refine lv_topi (fun v189 e_v189 => ?_)
                        have e_v189 : v189.toInt = v187.toInt * 5 := ml_i e_v189 rfl li_5 (by omega) (by omega)
                        refine lv_goto (tgt := 199) hx hb dX12_rests_190 (by decide) ?_
                        rw [hQ]
                        refine W.widen (k := 0) (n := 0) (Nat.le_refl _) (Nat.le_refl _) ?_
                        exact W.iret (v := v189) hx hb hr (fun t ht hW => ⟨⟨v189, w117, rfl, ⟨hw.2.2.2.2, hM, ⟨v105d, (by omega), (by omega), f_f0_M_said_10⟩⟩, by rw [ht]; exact hw.2.1, va_K.moved hW.alike hw.1, hw.2.2.1⟩, hw.2.2.2.1.F ht⟩) hw.2.2.2.1.2.2 dX12_rests_199
                    · simp only [fa_lt, fa_le, fa_eq, li_0] at c_171
                      refine lv_bipush (v := (-2)) hx hb dX12_rests_174 (by decide) ?_
                      refine lv_goto (tgt := 199) hx hb dX12_rests_176 (by decide) ?_
                      rw [hQ]
                      refine W.widen (k := 0) (n := 0) (Nat.le_refl _) (Nat.le_refl _) ?_
                      exact W.iret (v := (-2)) hx hb hr (fun t ht hW => ⟨⟨(-2), w117, rfl, ⟨hw.2.2.2.2, hM, ⟨v105d, (by omega), (by omega), f_f0_M_said_10⟩⟩, by rw [ht]; exact hw.2.1, va_K.moved hW.alike hw.1, hw.2.2.1⟩, hw.2.2.2.1.F ht⟩) hw.2.2.2.1.2.2 dX12_rests_199
                  · simp only [fa_lt, fa_le, fa_eq, li_0] at c_163
                    refine lv_iload hx hb dX12_rests_166 (lv_at hl 4 rfl) ?_
                    rw [hQ]
                    refine W.widen (k := 0) (n := 0) (Nat.le_refl _) (Nat.le_refl _) ?_
                    exact W.iret (v := p117_l4) hx hb hr (fun t ht hW => ⟨⟨p117_l4, w117, rfl, ⟨hw.2.2.2.2, hM, ⟨v105d, (by omega), (by omega), f_f0_M_said_10⟩⟩, by rw [ht]; exact hw.2.1, va_K.moved hW.alike hw.1, hw.2.2.1⟩, hw.2.2.2.1.F ht⟩) hw.2.2.2.1.2.2 dX12_rests_168
                · simp only [fa_lt, fa_le, fa_eq, li_25] at c_121
                  refine lv_aload_n hx hb dX12_rests_124 rfl (lv_at hl 0 rfl) ?_
                  refine lv_iload_n hx hb dX12_rests_125 rfl (lv_at hl 1 rfl) ?_
                  refine lv_iload_n hx hb dX12_rests_126 rfl (lv_at hl 2 rfl) ?_
                  refine lv_iload hx hb dX12_rests_127 (lv_at hl 6 rfl) ?_
                  refine lv_iconst (v := 5) hx hb dX12_rests_129 (by decide) ?_
                  refine lv_idiv hx hb dX12_rests_130 (ne_i li_5 (by decide)) ?_
                  refine lv_topi (fun v130 e_v130 => ?_)
                  have e_v130 : v130.toInt = p117_l6.toInt / 5 := dv_i e_v130 rfl li_5 (by omega) (by decide)
                  refine lv_iload hx hb dX12_rests_131 (lv_at hl 6 rfl) ?_
                  refine lv_iconst (v := 5) hx hb dX12_rests_133 (by decide) ?_
                  refine lv_irem hx hb dX12_rests_134 (ne_i li_5 (by decide)) ?_
                  refine lv_topi (fun v134 e_v134 => ?_)
                  have e_v134 : v134.toInt = p117_l6.toInt % 5 := rm_i e_v134 rfl li_5 (by omega) (by decide)
                  refine t_calli (va_runV (As := [.int a1, .int a2, .int v130, .int v134]) (rest := []) ⟨hx, hb, hml, hown, hts⟩ (t_X12_isRest l dC dI tys κ B w117 hw.2.2.2.2 a0 k_a0 a1 (by omega) (by omega) a2 (by omega) (by omega) v130 (by omega) (by omega) v134 (by omega) (by omega) H.size) (cwV 4 hts (gUV tw_1664 tw_1666 ts_7_10 tw_13 tw_1667) rfl rfl rfl (by decide +kernel) ⟨(Nat.le_of_ble_eq_true rfl), (Nat.le_of_ble_eq_true rfl)⟩) ⟨cPre.blind, t_recv hw (ci := 12) k_a0 rfl rfl, cPre.use hw.2.1 hw.1 hw.2.2.1 hE⟩ rfl rfl hl.1 rfl (lv_room (Nat.le_of_ble_eq_true rfl)) dX12_rests_135 ⟨(Nat.le_of_ble_eq_true rfl), (Nat.le_of_ble_eq_true rfl)⟩) hw hA (fun _ _ h => h.2.2.1) (fun v135 w_6 H locs hp hw => ?_)
                  obtain ⟨l_v135, h_v135, _, hm⟩ := hp
                  have hM := hM.trans hm (by decide) (by decide)
                  have f_a0_X12_20 := hm.1 _ _ _ _ f_a0_X12_20 (by decide)
                  have f_f0_M_said_10 := hm.elt k_f0 (by decide) f_f0_M_said_10
                  have J156 : ∀ (H : Heap) (locs : List Loc) (ls : Array Slot) (w156 : va_W) (p156_l4 : Int32) (p156_l5 : Int32), tW (dC, dI) tys κ B A s w156 H locs → Sm [(12, 18)] [61, 62, 63, 64, 66, 68] κ ws w156 → (-2147483648) ≤ p156_l4.toInt → p156_l4.toInt ≤ 2147483647 → (-1) ≤ p156_l5.toInt → p156_l5.toInt ≤ 24 → fld w156 a0 12 20 (.ref f0) → elt w156 f0 (10 : Int32).toInt.toNat v105d → lv_has ls 7 [(0, .ref a0), (1, .int a1), (2, .int a2), (3, .int a3), (4, .int p156_l4), (5, .int p156_l5), (6, .int p117_l6)] → W p l e (headSpec (ws_u yX12_rests cX12_rests 7 (some .int)) ({ frames := 7, cells := 0, slots := 0, locals := 168 })).room s m ([.ref a0, .int a1, .int a2, .int a3] : List Value).toArray below meth c H locs 0 0 QQ (F0 m 156 ls []) := by
                    intro H locs ls w156 p156_l4 p156_l5 hw hM l_p156_l4 h_p156_l4 l_p156_l5 h_p156_l5 f_a0_X12_20 f_f0_M_said_10 hl
                    obtain ⟨v156, e_v156⟩ : ∃ y : Int32, y = p117_l6 + 1 := ⟨_, rfl⟩
                    refine lv_iinc (v := v156) (lv' := [(6, .int v156), (0, .ref a0), (1, .int a1), (2, .int a2), (3, .int a3), (4, .int p156_l4), (5, .int p156_l5)]) hx hb dX12_rests_156 hl (k := 6) rfl e_v156.symm (by decide) rfl (fun ls hl => ?_)
                    have e_v156 : v156.toInt = p117_l6.toInt + 1 := ad_i e_v156 rfl li_1 (by omega) (by omega)
                    refine lv_goto (tgt := 117) hx hb dX12_rests_159 (by decide) ?_
                    exact ih_117 _ _ _ _ (by omega) ⟨w156, p156_l4, p156_l5, v156, hw, hM, (by omega), (by omega), (by omega), (by omega), (by omega), (by omega), f_a0_X12_20, f_f0_M_said_10, (lv_sub hl [1, 2, 3, 4, 5, 6, 0] rfl), rfl⟩
                  refine lv_if_ne (tgt := 144) hx hb dX12_rests_138 (by decide) (fun c_138 => ?_) (fun c_138 => ?_)
                  · simp only [fa_lt, fa_le, fa_eq, li_0] at c_138
                    refine lv_iload hx hb dX12_rests_144 (lv_at hl 4 rfl) ?_
                    have J153 : ∀ (H : Heap) (locs : List Loc) (ls : Array Slot) (w153 : va_W) (p153_l5 : Int32), tW (dC, dI) tys κ B A s w153 H locs → Sm [(12, 18)] [61, 62, 63, 64, 66, 68] κ ws w153 → (-1) ≤ p153_l5.toInt → p153_l5.toInt ≤ 24 → fld w153 a0 12 20 (.ref f0) → elt w153 f0 (10 : Int32).toInt.toNat v105d → lv_has ls 7 [(0, .ref a0), (1, .int a1), (2, .int a2), (3, .int a3), (4, .int p117_l4), (5, .int p153_l5), (6, .int p117_l6)] → W p l e (headSpec (ws_u yX12_rests cX12_rests 7 (some .int)) ({ frames := 7, cells := 0, slots := 0, locals := 168 })).room s m ([.ref a0, .int a1, .int a2, .int a3] : List Value).toArray below meth c H locs 0 0 QQ (F0 m 153 ls []) := by
                      intro H locs ls w153 p153_l5 hw hM l_p153_l5 h_p153_l5 f_a0_X12_20 f_f0_M_said_10 hl
                      obtain ⟨v153, e_v153⟩ : ∃ y : Int32, y = p117_l4 + 1 := ⟨_, rfl⟩
                      refine lv_iinc (v := v153) (lv' := [(4, .int v153), (0, .ref a0), (1, .int a1), (2, .int a2), (3, .int a3), (5, .int p153_l5), (6, .int p117_l6)]) hx hb dX12_rests_153 hl (k := 4) rfl e_v153.symm (by decide) rfl (fun ls hl => ?_)
                      have l_v153 := i32_lo v153
                      have h_v153 := i32_hi v153
                      exact J156 _ _ _ w153 v153 p153_l5 hw hM (by omega) (by omega) (by omega) (by omega) f_a0_X12_20 f_f0_M_said_10 (lv_sub hl [1, 2, 3, 4, 0, 5, 6] rfl)
                    refine lv_if_ne (tgt := 153) hx hb dX12_rests_146 (by decide) (fun c_146 => ?_) (fun c_146 => ?_)
                    · simp only [fa_lt, fa_le, fa_eq, li_0] at c_146
                      exact J153 _ _ _ w_6 p117_l5 hw hM (by omega) (by omega) f_a0_X12_20 f_f0_M_said_10 (lv_sub hl [0, 1, 2, 3, 4, 5, 6] rfl)
                    · simp only [fa_lt, fa_le, fa_eq, li_0] at c_146
                      refine lv_iload hx hb dX12_rests_149 (lv_at hl 6 rfl) ?_
                      refine lv_istore (lv' := [(5, .int p117_l6), (0, .ref a0), (1, .int a1), (2, .int a2), (3, .int a3), (4, .int p117_l4), (6, .int p117_l6)]) hx hb dX12_rests_151 hl (by decide) rfl (fun ls hl => ?_)
                      exact J153 _ _ _ w_6 p117_l6 hw hM (by omega) (by omega) f_a0_X12_20 f_f0_M_said_10 (lv_sub hl [1, 2, 3, 4, 5, 0, 6] rfl)
                  · simp only [fa_lt, fa_le, fa_eq, li_0] at c_138
                    refine lv_goto (tgt := 156) hx hb dX12_rests_141 (by decide) ?_
                    exact J156 _ _ _ w_6 p117_l4 p117_l5 hw hM (by omega) (by omega) (by omega) (by omega) f_a0_X12_20 f_f0_M_said_10 (lv_sub hl [0, 1, 2, 3, 4, 5, 6] rfl)
              exact J117 _ _ _ _ ⟨w_5, 0, (-1), 0, hw, hM, (by decide), (by decide), (by decide), (by decide), (by decide), (by decide), f_a0_X12_20, f_f0_M_said_10, (lv_sub hl [3, 4, 5, 6, 2, 1, 0] rfl), rfl⟩
            · simp only [fa_lt, fa_le, fa_eq, li_25] at c_46
              refine lv_aload_n hx hb dX12_rests_49 rfl (lv_at hl 0 rfl) ?_
              refine t_getk (ci := 12) (C := RX12) (T := TX12) (N := 38) hx hb hts iX12 hown hw rfl 20 (by decide) (hts _ tw_1145) (fun _ h9 => h9) dX12_rests_50 f_a0_X12_20 ?_
              refine lv_bipush (v := 16) hx hb dX12_rests_53 (by decide) ?_
              refine lv_iconst (v := 3) hx hb dX12_rests_55 (by decide) ?_
              refine lv_iload_n hx hb dX12_rests_56 rfl (lv_at hl 1 rfl) ?_
              refine lv_imul hx hb dX12_rests_57 ?_
              refine lv_topi (fun v57 e_v57 => ?_)
              have e_v57 : v57.toInt = 3 * a1.toInt := ml_i e_v57 li_3 rfl (by omega) (by omega)
              refine lv_iadd hx hb dX12_rests_58 ?_
              refine lv_topi (fun v58 e_v58 => ?_)
              have e_v58 : v58.toInt = 16 + v57.toInt := ad_i e_v58 li_16 rfl (by omega) (by omega)
              refine lv_iconst (v := 1) hx hb dX12_rests_59 (by decide) ?_
              refine lv_iadd hx hb dX12_rests_60 ?_
              refine lv_topi (fun v60 e_v60 => ?_)
              have e_v60 : v60.toInt = v58.toInt + 1 := ad_i e_v60 rfl li_1 (by omega) (by omega)
              refine lv_iload hx hb dX12_rests_61 (lv_at hl 4 rfl) ?_
              refine lv_iconst (v := 5) hx hb dX12_rests_63 (by decide) ?_
              refine lv_idiv hx hb dX12_rests_64 (ne_i li_5 (by decide)) ?_
              refine lv_topi (fun v64 e_v64 => ?_)
              have e_v64 : v64.toInt = p42_l4.toInt / 5 := dv_i e_v64 rfl li_5 (by omega) (by decide)
              refine lv_iconst (v := 5) hx hb dX12_rests_65 (by decide) ?_
              refine lv_imul hx hb dX12_rests_66 ?_
              refine lv_topi (fun v66 e_v66 => ?_)
              have e_v66 : v66.toInt = v64.toInt * 5 := ml_i e_v66 rfl li_5 (by omega) (by omega)
              refine t_iast hx hb hw k_f0 rfl rfl (by omega) (show v60.toInt < 306 by omega) (by rw [fr_63 (by omega) (by omega)]; exact i32_lo _) (by rw [fr_63 (by omega) (by omega)]; exact i32_hi _) dX12_rests_67 (fun w_7 H locs hw u => ?_)
              have hM := hM.up3 u k_f0 (by decide)
              have f_a0_X12_20 := u.1 _ _ _ _ f_a0_X12_20
              have f_f0_M_said_10 := u.2.2.1 _ _ _ f_f0_M_said_10 (Or.inr (by rw [show (10 : Int32).toInt.toNat = 10 by decide]; omega))
              refine lv_aload_n hx hb dX12_rests_68 rfl (lv_at hl 0 rfl) ?_
              refine t_getk (ci := 12) (C := RX12) (T := TX12) (N := 38) hx hb hts iX12 hown hw rfl 20 (by decide) (hts _ tw_1145) (fun _ h9 => h9) dX12_rests_69 f_a0_X12_20 ?_
              refine lv_bipush (v := 16) hx hb dX12_rests_72 (by decide) ?_
              refine lv_iconst (v := 3) hx hb dX12_rests_74 (by decide) ?_
              refine lv_iload_n hx hb dX12_rests_75 rfl (lv_at hl 2 rfl) ?_
              refine lv_imul hx hb dX12_rests_76 ?_
              refine lv_topi (fun v76 e_v76 => ?_)
              have e_v76 : v76.toInt = 3 * a2.toInt := ml_i e_v76 li_3 rfl (by omega) (by omega)
              refine lv_iadd hx hb dX12_rests_77 ?_
              refine lv_topi (fun v77 e_v77 => ?_)
              have e_v77 : v77.toInt = 16 + v76.toInt := ad_i e_v77 li_16 rfl (by omega) (by omega)
              refine lv_iconst (v := 1) hx hb dX12_rests_78 (by decide) ?_
              refine lv_iadd hx hb dX12_rests_79 ?_
              refine lv_topi (fun v79 e_v79 => ?_)
              have e_v79 : v79.toInt = v77.toInt + 1 := ad_i e_v79 rfl li_1 (by omega) (by omega)
              refine lv_iload hx hb dX12_rests_80 (lv_at hl 4 rfl) ?_
              refine lv_iconst (v := 5) hx hb dX12_rests_82 (by decide) ?_
              refine lv_irem hx hb dX12_rests_83 (ne_i li_5 (by decide)) ?_
              refine lv_topi (fun v83 e_v83 => ?_)
              have e_v83 : v83.toInt = p42_l4.toInt % 5 := rm_i e_v83 rfl li_5 (by omega) (by decide)
              refine lv_iconst (v := 5) hx hb dX12_rests_84 (by decide) ?_
              refine lv_imul hx hb dX12_rests_85 ?_
              refine lv_topi (fun v85 e_v85 => ?_)
              have e_v85 : v85.toInt = v83.toInt * 5 := ml_i e_v85 rfl li_5 (by omega) (by omega)
              refine t_iast hx hb hw k_f0 rfl rfl (by omega) (show v79.toInt < 306 by omega) (by rw [fr_63 (by omega) (by omega)]; exact i32_lo _) (by rw [fr_63 (by omega) (by omega)]; exact i32_hi _) dX12_rests_86 (fun w_8 H locs hw u => ?_)
              have hM := hM.up3 u k_f0 (by decide)
              have f_a0_X12_20 := u.1 _ _ _ _ f_a0_X12_20
              have f_f0_M_said_10 := u.2.2.1 _ _ _ f_f0_M_said_10 (Or.inr (by rw [show (10 : Int32).toInt.toNat = 10 by decide]; omega))
              refine lv_aload_n hx hb dX12_rests_87 rfl (lv_at hl 0 rfl) ?_
              refine t_getr (k1 := 68) (ci := 12) (C := RX12) (T := TX12) (N := 38) hx hb hts iX12 hown hw k_a0 rfl rfl rfl 29 (by decide) (hts _ tw_1154) (fun _ h9 => h9) dX12_rests_88 rfl (fun v88 k_v88 f_a0_X12_29 => ?_)
              refine lv_iload hx hb dX12_rests_91 (lv_at hl 4 rfl) ?_
              refine lv_aload_n hx hb dX12_rests_93 rfl (lv_at hl 0 rfl) ?_
              refine t_calli (va_runV (As := []) (rest := [.int p42_l4, .ref v88]) ⟨hx, hb, hml, hown, hts⟩ (t_X12_chosen l dC dI tys κ B w_8 hw.2.2.2.2 a0 k_a0 (hRT.sm hM (by decide) (by decide)) H.size) (cwV 0 hts (gUV tw_1505 tw_1507 ts_6_0 tw_13 tw_1508) rfl rfl rfl (by decide +kernel) ⟨(Nat.le_of_ble_eq_true rfl), (Nat.le_of_ble_eq_true rfl)⟩) ⟨cPre.blind, t_recv hw (ci := 12) k_a0 rfl rfl, cPre.use hw.2.1 hw.1 hw.2.2.1 hE⟩ rfl rfl hl.1 rfl (lv_room (Nat.le_of_ble_eq_true rfl)) dX12_rests_94 ⟨(Nat.le_of_ble_eq_true rfl), (Nat.le_of_ble_eq_true rfl)⟩) hw hA (fun _ _ h => h.2.2.1) (fun v94 w_9 H locs hp hw => ?_)
              obtain ⟨l_v94, h_v94, _, hm⟩ := hp
              have hM := hM.trans hm (by decide) (by decide)
              have f_a0_X12_20 := hm.1 _ _ _ _ f_a0_X12_20 (by decide)
              have f_f0_M_said_10 := hm.elt k_f0 (by decide) f_f0_M_said_10
              have f_a0_X12_29 := hm.1 _ _ _ _ f_a0_X12_29 (by decide)
              refine t_iast hx hb hw k_v88 rfl rfl (by omega) (show p42_l4.toInt < 25 by omega) (i32_lo _) (i32_hi _) dX12_rests_97 (fun w_10 H locs hw u => ?_)
              have hM := hM.up3 u k_v88 (by decide)
              have f_a0_X12_20 := u.1 _ _ _ _ f_a0_X12_20
              have f_f0_M_said_10 := u.2.2.1 _ _ _ f_f0_M_said_10 (Or.inl (ne_k k_f0 k_v88 (by decide)))
              have f_a0_X12_29 := u.1 _ _ _ _ f_a0_X12_29
              obtain ⟨v98, e_v98⟩ : ∃ y : Int32, y = p42_l4 + 1 := ⟨_, rfl⟩
              refine lv_iinc (v := v98) (lv' := [(4, .int v98), (0, .ref a0), (1, .int a1), (2, .int a2), (3, .int a3)]) hx hb dX12_rests_98 hl (k := 4) rfl e_v98.symm (by decide) rfl (fun ls hl => ?_)
              have e_v98 : v98.toInt = p42_l4.toInt + 1 := ad_i e_v98 rfl li_1 (by omega) (by omega)
              refine lv_goto (tgt := 42) hx hb dX12_rests_101 (by decide) ?_
              exact ih_42 _ _ _ _ (by omega) ⟨w_10, v98, hw, hM, (by omega), (by omega), f_a0_X12_20, f_f0_M_said_10, (lv_sub hl [1, 2, 3, 4, 0] rfl), rfl⟩
          exact J42 _ _ _ _ ⟨w_4, 0, hw, hM, (by decide), (by decide), f_a0_X12_20, f_f0_M_said_10, (lv_sub hl [1, 2, 3, 4, 0] rfl), rfl⟩
        · simp only [fa_lt, fa_le, fa_eq, li_0] at c_30
          refine lv_iconst (v := (-1)) hx hb dX12_rests_33 (by decide) ?_
          rw [hQ]
          refine W.widen (k := 0) (n := 0) (Nat.le_refl _) (Nat.le_refl _) ?_
          exact W.iret (v := (-1)) hx hb hr (fun t ht hW => ⟨⟨(-1), w_3, rfl, ⟨hw.2.2.2.2, hM, ⟨f1, (by omega), (by omega), f_f0_M_said_10⟩⟩, by rw [ht]; exact hw.2.1, va_K.moved hW.alike hw.1, hw.2.2.1⟩, hw.2.2.2.1.F ht⟩) hw.2.2.2.1.2.2 dX12_rests_34
set_option maxHeartbeats 4000000 in
set_option maxRecDepth 100000 in
theorem t_X12_rule (l : Launch) (dC : Nat → ClassId) (dI : Nat → Nat → Nat) (tys : List (ClassId × FieldType)) (κ : tK) (B : Nat) (ws : va_W) (hT : Ty κ tys B ws) (a0 : Nat) (k_a0 : κ a0 = some 12) (hRT : RT κ ws a0) (sz : Nat) : Met l yX12_rule (ws_u yX12_rule cX12_rule 1 (some .int)) ({ frames := 12, cells := 0, slots := 0, locals := 262 }) (va_Pc [.ref a0] (cPre (dC, dI) tys ws sz)) (va_Qi (fun (r : Int32) (w : va_W) => Ty κ tys B w ∧ Sm [(12, 1), (12, 2), (12, 8), (12, 9), (12, 10), (12, 11), (12, 12), (12, 13), (12, 14), (12, 16)] [55, 56, 57, 58, 59, 60] κ ws w ∧ RT κ w a0) (fun w t => cPost (dC, dI) tys w (va_A ws sz) t) (va_A ws sz)) 0 0 (va_A ws sz) := by
  refine Met.ofW (cc := cX12_rule) (maxL := 1) (ret := (some .int)) (by decide) rfl ?_
  intro p e s m args below meth c s₁ B0 hml hv
  obtain ⟨rfl, hsz, hP, hK, hD0, hE⟩ := hv
  have hx := B0.exec
  have hb := B0.bytes
  have hr := B0.returns
  have hts0 := atoms_spec (ws := ws_u yX12_rule cX12_rule 1 (some .int)) B0.pre
  have hts : ∀ w ∈ gT, w.before _ s = true := fun w h => hts0 w (List.mem_cons_of_mem _ h)
  have hown : s.vm.findClass RX12 = some m.cls := findClass_of_methodNamed B0.named
  have hlocks := B0.notSynchronized
  subst hsz
  have hD := hD0.self (sz := s.heap.size)
  generalize hAe : va_A ws s.heap.size = A at hD ⊢
  have hA : ∀ q : Nat, s.heap.size ≤ q → A q := fun q h => by rw [← hAe]; exact Or.inr h
  have hw : tW (dC, dI) tys κ B A s ws s.heap [] := ⟨hK, hP, hD, va_S.rf, hT⟩
  have hM : Sm [(12, 1), (12, 2), (12, 8), (12, 9), (12, 10), (12, 11), (12, 12), (12, 13), (12, 14), (12, 16)] [55, 56, 57, 58, 59, 60] κ ws ws := Sm.rf
  clear hP hK hD hD0 hts0
  have hl := lv_entry ([.ref a0]) (n := 1) (Nat.le_of_ble_eq_true rfl)
  rw [lg_entry_eq]
  generalize (lg_sl ([.ref a0]) ++ List.replicate (1 - (lg_sl ([.ref a0])).length) Slot.unset).toArray = ls at hl ⊢
  have hl : lv_has ls 1 [(0, .ref a0)] := hl
  refine t_start (fun QQ hQ => ?_)
  refine lv_aload_n hx hb dX12_rule_0 rfl (lv_at hl 0 rfl) ?_
  refine t_geti (ci := 12) (C := RX12) (T := TX12) (N := 38) hx hb hts iX12 hown hw k_a0 rfl rfl rfl 2 (by decide) (hts _ tw_1127) (fun _ h9 => h9) dX12_rule_1 rfl (fun v1 l_v1 h_v1 f_a0_X12_2 => ?_)
  have l_v1 : 0 ≤ v1.toInt := l_v1
  have h_v1 : v1.toInt ≤ 6 := h_v1
  refine lv_bipush (v := 6) hx hb dX12_rule_4 (by decide) ?_
  refine lv_icmp_ne (tgt := 11) hx hb dX12_rule_6 (by decide) (fun c_6 => ?_) (fun c_6 => ?_)
  · simp only [fa_lt, fa_le, fa_eq, li_6] at c_6
    refine lv_aload_n hx hb dX12_rule_11 rfl (lv_at hl 0 rfl) ?_
    refine lv_aload_n hx hb dX12_rule_12 rfl (lv_at hl 0 rfl) ?_
    refine t_getk (ci := 12) (C := RX12) (T := TX12) (N := 38) hx hb hts iX12 hown hw rfl 2 (by decide) (hts _ tw_1127) (fun _ h9 => h9) dX12_rule_13 f_a0_X12_2 ?_
    refine t_put (ci := 12) (C := RX12) (T := TX12) (N := 38) (v := .int v1) hx hb hts iX12 tyX12 tyX12_ok nmX12 hown hw k_a0 rfl rfl rfl 11 (by decide) (hts _ tw_1136) (fun _ h9 => h9) rfl (tyX12_ok 11 (by decide)) rfl rfl (okV.int rfl (by omega) (by omega)) dX12_rule_16 (fun w_1 H locs hw u => ?_)
    have hM := hM.up1 u (by decide)
    have f_a0_X12_2 := u.1 _ _ _ _ f_a0_X12_2 (Or.inr (Or.inr (by decide)))
    have f_a0_X12_11 := u.2.2
    have hRT := hRT.sm (Sm.of1 u) (by decide) (by decide)
    refine lv_aload_n hx hb dX12_rule_19 rfl (lv_at hl 0 rfl) ?_
    refine t_getr (k1 := 58) (ci := 12) (C := RX12) (T := TX12) (N := 38) hx hb hts iX12 hown hw k_a0 rfl rfl rfl 6 (by decide) (hts _ tw_1131) (fun _ h9 => h9) dX12_rule_20 rfl (fun v20 k_v20 f_a0_X12_6 => ?_)
    refine lv_aload_n hx hb dX12_rule_23 rfl (lv_at hl 0 rfl) ?_
    refine t_getk (ci := 12) (C := RX12) (T := TX12) (N := 38) hx hb hts iX12 hown hw rfl 11 (by decide) (hts _ tw_1136) (fun _ h9 => h9) dX12_rule_24 f_a0_X12_11 ?_
    refine lv_iconst (v := 0) hx hb dX12_rule_27 (by decide) ?_
    refine t_iast hx hb hw k_v20 rfl rfl (by omega) (show v1.toInt < 6 by omega) (show 0 ≤ (0 : Int32).toInt by decide) (show (0 : Int32).toInt ≤ 12 by decide) dX12_rule_28 (fun w_2 H locs hw u => ?_)
    have hM := hM.up3 u k_v20 (by decide)
    have f_a0_X12_2 := u.1 _ _ _ _ f_a0_X12_2
    have f_a0_X12_11 := u.1 _ _ _ _ f_a0_X12_11
    have f_a0_X12_6 := u.1 _ _ _ _ f_a0_X12_6
    have hRZ := hRT.zero hw.2.2.1 f_a0_X12_6 u (by omega) (by decide)
    refine lv_aload_n hx hb dX12_rule_29 rfl (lv_at hl 0 rfl) ?_
    refine t_calli (va_runV (As := []) (rest := []) ⟨hx, hb, hml, hown, hts⟩ (t_X12_readsAll l dC dI tys κ B w_2 hw.2.2.2.2 a0 k_a0 v1 (by omega) (by omega) f_a0_X12_11 (Or.inr ⟨by omega, hRZ⟩) H.size) (cwV 0 hts (gUV tw_1256 tw_1258 ts_3_1 tw_13 tw_1259) rfl rfl rfl (by decide +kernel) ⟨(Nat.le_of_ble_eq_true rfl), (Nat.le_of_ble_eq_true rfl)⟩) ⟨cPre.blind, t_recv hw (ci := 12) k_a0 rfl rfl, cPre.use hw.2.1 hw.1 hw.2.2.1 hE⟩ rfl rfl hl.1 rfl (lv_room (Nat.le_of_ble_eq_true rfl)) dX12_rule_30 ⟨(Nat.le_of_ble_eq_true rfl), (Nat.le_of_ble_eq_true rfl)⟩) hw hA (fun _ _ h => h.2.2.1) (fun v30 w_3 H locs hp hw => ?_)
    obtain ⟨l_v30, h_v30, _, hm, hRT⟩ := hp
    have hM := hM.trans hm (by decide) (by decide)
    have f_a0_X12_2 := hm.1 _ _ _ _ f_a0_X12_2 (by decide)
    have f_a0_X12_11 := hm.1 _ _ _ _ f_a0_X12_11 (by decide)
    have f_a0_X12_6 := hm.1 _ _ _ _ f_a0_X12_6 (by decide)
    refine lv_if_ne (tgt := 44) hx hb dX12_rule_33 (by decide) (fun c_33 => ?_) (fun c_33 => ?_)
    · simp only [fa_lt, fa_le, fa_eq, li_0] at c_33
      refine lv_aload_n hx hb dX12_rule_44 rfl (lv_at hl 0 rfl) ?_
      refine lv_dup hx hb dX12_rule_45 rfl ?_
      refine t_getk (ci := 12) (C := RX12) (T := TX12) (N := 38) hx hb hts iX12 hown hw rfl 2 (by decide) (hts _ tw_1127) (fun _ h9 => h9) dX12_rule_46 f_a0_X12_2 ?_
      refine lv_iconst (v := 1) hx hb dX12_rule_49 (by decide) ?_
      refine lv_iadd hx hb dX12_rule_50 ?_
      refine lv_topi (fun v50 e_v50 => ?_)
      have e_v50 : v50.toInt = v1.toInt + 1 := ad_i e_v50 rfl li_1 (by omega) (by omega)
      refine t_put (ci := 12) (C := RX12) (T := TX12) (N := 38) (v := .int v50) hx hb hts iX12 tyX12 tyX12_ok nmX12 hown hw k_a0 rfl rfl rfl 2 (by decide) (hts _ tw_1127) (fun _ h9 => h9) rfl (tyX12_ok 2 (by decide)) rfl rfl (okV.int rfl (by omega) (by omega)) dX12_rule_51 (fun w_4 H locs hw u => ?_)
      have hM := hM.up1 u (by decide)
      have f_a0_X12_2 := u.2.2
      have f_a0_X12_11 := u.1 _ _ _ _ f_a0_X12_11 (Or.inr (Or.inr (by decide)))
      have f_a0_X12_6 := u.1 _ _ _ _ f_a0_X12_6 (Or.inr (Or.inr (by decide)))
      have hRT := hRT.sm (Sm.of1 u) (by decide) (by decide)
      refine lv_aload_n hx hb dX12_rule_54 rfl (lv_at hl 0 rfl) ?_
      refine t_getk (ci := 12) (C := RX12) (T := TX12) (N := 38) hx hb hts iX12 hown hw rfl 2 (by decide) (hts _ tw_1127) (fun _ h9 => h9) dX12_rule_55 f_a0_X12_2 ?_
      refine lv_iconst (v := 1) hx hb dX12_rule_58 (by decide) ?_
      refine lv_isub hx hb dX12_rule_59 ?_
      refine lv_topi (fun v59 e_v59 => ?_)
      have e_v59 : v59.toInt = v50.toInt - 1 := sb_i e_v59 rfl li_1 (by omega) (by omega)
      rw [hQ]
      refine W.widen (k := 0) (n := 0) (Nat.le_refl _) (Nat.le_refl _) ?_
      exact W.iret (v := v59) hx hb hr (fun t ht hW => ⟨⟨v59, w_4, rfl, ⟨hw.2.2.2.2, hM, hRT⟩, by rw [ht]; exact hw.2.1, va_K.moved hW.alike hw.1, hw.2.2.1⟩, hw.2.2.2.1.F ht⟩) hw.2.2.2.1.2.2 dX12_rule_60
    · simp only [fa_lt, fa_le, fa_eq, li_0] at c_33
      refine lv_bipush (v := (-2)) hx hb dX12_rule_36 (by decide) ?_
      refine lv_aload_n hx hb dX12_rule_38 rfl (lv_at hl 0 rfl) ?_
      refine t_geti (ci := 12) (C := RX12) (T := TX12) (N := 38) hx hb hts iX12 hown hw k_a0 rfl rfl rfl 9 (by decide) (hts _ tw_1134) (fun _ h9 => h9) dX12_rule_39 rfl (fun v39 l_v39 h_v39 f_a0_X12_9 => ?_)
      have l_v39 : (-2147483648) ≤ v39.toInt := l_v39
      have h_v39 : v39.toInt ≤ 2147483647 := h_v39
      refine lv_isub hx hb dX12_rule_42 ?_
      refine lv_topi (fun v42 e_v42 => ?_)
      have l_v42 := i32_lo v42
      have h_v42 := i32_hi v42
      rw [hQ]
      refine W.widen (k := 0) (n := 0) (Nat.le_refl _) (Nat.le_refl _) ?_
      exact W.iret (v := v42) hx hb hr (fun t ht hW => ⟨⟨v42, w_3, rfl, ⟨hw.2.2.2.2, hM, hRT⟩, by rw [ht]; exact hw.2.1, va_K.moved hW.alike hw.1, hw.2.2.1⟩, hw.2.2.2.1.F ht⟩) hw.2.2.2.1.2.2 dX12_rule_43
  · simp only [fa_lt, fa_le, fa_eq, li_6] at c_6
    refine lv_iconst (v := (-1)) hx hb dX12_rule_9 (by decide) ?_
    rw [hQ]
    refine W.widen (k := 0) (n := 0) (Nat.le_refl _) (Nat.le_refl _) ?_
    exact W.iret (v := (-1)) hx hb hr (fun t ht hW => ⟨⟨(-1), ws, rfl, ⟨hw.2.2.2.2, hM, hRT⟩, by rw [ht]; exact hw.2.1, va_K.moved hW.alike hw.1, hw.2.2.1⟩, hw.2.2.2.1.F ht⟩) hw.2.2.2.1.2.2 dX12_rule_10
set_option maxHeartbeats 4000000 in
set_option maxRecDepth 100000 in
theorem t_X12_ruled (l : Launch) (dC : Nat → ClassId) (dI : Nat → Nat → Nat) (tys : List (ClassId × FieldType)) (κ : tK) (B : Nat) (ws : va_W) (hT : Ty κ tys B ws) (a0 : Nat) (k_a0 : κ a0 = some 12) (a1 : Int32) (f0 : Nat) (k_f0 : κ f0 = some 63) (f_a0_X12_20 : fld ws a0 12 20 (.ref f0)) (f1 : Int32) (l_f1 : 0 ≤ f1.toInt) (h_f1 : f1.toInt ≤ 999) (f_f0_M_said_10 : elt ws f0 (10 : Int32).toInt.toNat f1) (hRT : RT κ ws a0) (sz : Nat) : Met l yX12_ruled (ws_u yX12_ruled cX12_ruled 5 (some .int)) ({ frames := 10, cells := 0, slots := 0, locals := 234 }) (va_Pc [.ref a0, .int a1] (cPre (dC, dI) tys ws sz)) (va_Qi (fun (r : Int32) (w : va_W) => Ty κ tys B w ∧ Sm [(12, 18), (12, 21), (12, 24)] [61, 62, 63, 64, 66, 70, 71] κ ws w ∧ (∃ (xd : Int32), 0 ≤ xd.toInt ∧ xd.toInt ≤ 999 ∧ elt w f0 (10 : Int32).toInt.toNat xd)) (fun w t => cPost (dC, dI) tys w (va_A ws sz) t) (va_A ws sz)) 0 0 (va_A ws sz) := by
  refine Met.ofW (cc := cX12_ruled) (maxL := 5) (ret := (some .int)) (by decide) rfl ?_
  intro p e s m args below meth c s₁ B0 hml hv
  obtain ⟨rfl, hsz, hP, hK, hD0, hE⟩ := hv
  have hx := B0.exec
  have hb := B0.bytes
  have hr := B0.returns
  have hts0 := atoms_spec (ws := ws_u yX12_ruled cX12_ruled 5 (some .int)) B0.pre
  have hts : ∀ w ∈ gT, w.before _ s = true := fun w h => hts0 w (List.mem_cons_of_mem _ h)
  have hown : s.vm.findClass RX12 = some m.cls := findClass_of_methodNamed B0.named
  have hlocks := B0.notSynchronized
  subst hsz
  have hD := hD0.self (sz := s.heap.size)
  generalize hAe : va_A ws s.heap.size = A at hD ⊢
  have hA : ∀ q : Nat, s.heap.size ≤ q → A q := fun q h => by rw [← hAe]; exact Or.inr h
  have hw : tW (dC, dI) tys κ B A s ws s.heap [] := ⟨hK, hP, hD, va_S.rf, hT⟩
  have hM : Sm [(12, 18), (12, 21), (12, 24)] [61, 62, 63, 64, 66, 70, 71] κ ws ws := Sm.rf
  clear hP hK hD hD0 hts0
  have l_a1 := i32_lo a1
  have h_a1 := i32_hi a1
  have hl := lv_entry ([.ref a0, .int a1]) (n := 5) (Nat.le_of_ble_eq_true rfl)
  rw [lg_entry_eq]
  generalize (lg_sl ([.ref a0, .int a1]) ++ List.replicate (5 - (lg_sl ([.ref a0, .int a1])).length) Slot.unset).toArray = ls at hl ⊢
  have hl : lv_has ls 5 [(0, .ref a0), (1, .int a1)] := hl
  refine t_start (fun QQ hQ => ?_)
  refine lv_aload_n hx hb dX12_ruled_0 rfl (lv_at hl 0 rfl) ?_
  refine t_calli (va_runV (As := []) (rest := []) ⟨hx, hb, hml, hown, hts⟩ (t_X12_isChoir l dC dI tys κ B ws hw.2.2.2.2 a0 k_a0 s.heap.size) (cwV 0 hts (gUV tw_1489 tw_1491 ts_5_12 tw_13 tw_1492) rfl rfl rfl (by decide +kernel) ⟨(Nat.le_of_ble_eq_true rfl), (Nat.le_of_ble_eq_true rfl)⟩) ⟨cPre.blind, t_recv hw (ci := 12) k_a0 rfl rfl, cPre.use hw.2.1 hw.1 hw.2.2.1 hE⟩ rfl rfl hl.1 rfl (lv_room (Nat.le_of_ble_eq_true rfl)) dX12_ruled_1 ⟨(Nat.le_of_ble_eq_true rfl), (Nat.le_of_ble_eq_true rfl)⟩) hw hA (fun _ _ h => h.2.2.1) (fun v1 w_1 H locs hp hw => ?_)
  obtain ⟨l_v1, h_v1, _, hm⟩ := hp
  have hM := hM.trans hm (by decide) (by decide)
  have f_a0_X12_20 := hm.1 _ _ _ _ f_a0_X12_20 (by decide)
  have f_f0_M_said_10 := hm.elt k_f0 (by decide) f_f0_M_said_10
  refine lv_if_eq (tgt := 17) hx hb dX12_ruled_4 (by decide) (fun c_4 => ?_) (fun c_4 => ?_)
  · simp only [fa_lt, fa_le, fa_eq, li_0] at c_4
    refine lv_bipush (v := (-3)) hx hb dX12_ruled_17 (by decide) ?_
    rw [hQ]
    refine W.widen (k := 0) (n := 0) (Nat.le_refl _) (Nat.le_refl _) ?_
    exact W.iret (v := (-3)) hx hb hr (fun t ht hW => ⟨⟨(-3), w_1, rfl, ⟨hw.2.2.2.2, hM, ⟨f1, (by omega), (by omega), f_f0_M_said_10⟩⟩, by rw [ht]; exact hw.2.1, va_K.moved hW.alike hw.1, hw.2.2.1⟩, hw.2.2.2.1.F ht⟩) hw.2.2.2.1.2.2 dX12_ruled_19
  · simp only [fa_lt, fa_le, fa_eq, li_0] at c_4
    refine lv_iload_n hx hb dX12_ruled_7 rfl (lv_at hl 1 rfl) ?_
    refine lv_i2l hx hb dX12_ruled_8 rfl ?_
    refine lv_topl (fun v8 e_v8 => ?_)
    have t_v8 : v8.toInt = a1.toInt := by rw [e_v8, Int32.toInt_toInt64]
    refine lv_lconst (v := 0) hx hb dX12_ruled_9 (by decide) ?_
    obtain ⟨v9, e_v9⟩ : ∃ y : Int64, y = 0 := ⟨_, rfl⟩
    refine W.eq (g2 := F0 m 10 ls [.long v9, .long v8]) (by rw [e_v9]) ?_
    have t_v9 : v9.toInt = 0 := by rw [e_v9]; decide
    refine lv_lconst (v := 1) hx hb dX12_ruled_10 (by decide) ?_
    obtain ⟨v10, e_v10⟩ : ∃ y : Int64, y = 1 := ⟨_, rfl⟩
    refine W.eq (g2 := F0 m 11 ls [.long v10, .long v9, .long v8]) (by rw [e_v10]) ?_
    have t_v10 : v10.toInt = 1 := by rw [e_v10]; decide
    refine t_calli (va_runS (As := [.long v8, .long v9, .long v10]) (rest := []) ⟨hx, hb, hml, hown, hts⟩ (t_X12_in l dC dI tys κ B w_1 hw.2.2.2.2 v8 v9 v10 H.size) (va_cwS 3 hts (gUS tw_1316 tw_1317 tw_13 tw_1318) rfl rfl rfl (by decide +kernel) ⟨(Nat.le_of_ble_eq_true rfl), (Nat.le_of_ble_eq_true rfl)⟩) ⟨cPre.blind, cPre.use hw.2.1 hw.1 hw.2.2.1 hE⟩ rfl rfl hl.1 rfl (lv_room (Nat.le_of_ble_eq_true rfl)) dX12_ruled_11 ⟨(Nat.le_of_ble_eq_true rfl), (Nat.le_of_ble_eq_true rfl)⟩) hw hA (fun _ _ h => h.2.2.1) (fun v11 w_2 H locs hp hw => ?_)
    obtain ⟨l_v11, h_v11, _, hm, x_v11_0⟩ := hp
    have hM := hM.trans hm (by decide) (by decide)
    have f_a0_X12_20 := hm.1 _ _ _ _ f_a0_X12_20 (by decide)
    have f_f0_M_said_10 := hm.elt k_f0 (by decide) f_f0_M_said_10
    refine lv_if_ne (tgt := 20) hx hb dX12_ruled_14 (by decide) (fun c_14 => ?_) (fun c_14 => ?_)
    · simp only [fa_lt, fa_le, fa_eq, li_0] at c_14
      refine lv_aload_n hx hb dX12_ruled_20 rfl (lv_at hl 0 rfl) ?_
      refine t_callv (va_runV (As := []) (rest := []) ⟨hx, hb, hml, hown, hts⟩ (t_X12_fillsFits l dC dI tys κ B w_2 hw.2.2.2.2 a0 k_a0 f0 k_f0 f_a0_X12_20 f1 (by omega) (by omega) f_f0_M_said_10 (hRT.sm hM (by decide) (by decide)) H.size) (cwV 0 hts (gUV tw_1708 tw_1710 ts_7_15 tw_13 tw_1711) rfl rfl rfl (by decide +kernel) ⟨(Nat.le_of_ble_eq_true rfl), (Nat.le_of_ble_eq_true rfl)⟩) ⟨cPre.blind, t_recv hw (ci := 12) k_a0 rfl rfl, cPre.use hw.2.1 hw.1 hw.2.2.1 hE⟩ rfl rfl hl.1 rfl (lv_room (Nat.le_of_ble_eq_true rfl)) dX12_ruled_21 ⟨(Nat.le_of_ble_eq_true rfl), (Nat.le_of_ble_eq_true rfl)⟩) hw hA (fun _ h => h.1) (fun w_3 H locs hp hw => ?_)
      obtain ⟨_, hm, ⟨v21d, l_v21d, h_v21d, f_f0_M_said_10⟩⟩ := hp
      have hM := hM.trans hm (by decide) (by decide)
      have f_a0_X12_20 := hm.1 _ _ _ _ f_a0_X12_20 (by decide)
      refine lv_iconst (v := 0) hx hb dX12_ruled_24 (by decide) ?_
      refine lv_istore_n (lv' := [(2, .int 0), (0, .ref a0), (1, .int a1)]) hx hb dX12_ruled_25 rfl hl (by decide) rfl (fun ls hl => ?_)
      refine lv_bipush (v := (-2)) hx hb dX12_ruled_26 (by decide) ?_
      refine lv_istore_n (lv' := [(3, .int (-2)), (2, .int 0), (0, .ref a0), (1, .int a1)]) hx hb dX12_ruled_28 rfl hl (by decide) rfl (fun ls hl => ?_)
      refine lv_aload_n hx hb dX12_ruled_29 rfl (lv_at hl 2 rfl) ?_
      refine t_geti (ci := 12) (C := RX12) (T := TX12) (N := 38) hx hb hts iX12 hown hw k_a0 rfl rfl rfl 2 (by decide) (hts _ tw_1127) (fun _ h9 => h9) dX12_ruled_30 rfl (fun v30 l_v30 h_v30 f_a0_X12_2 => ?_)
      have l_v30 : 0 ≤ v30.toInt := l_v30
      have h_v30 : v30.toInt ≤ 6 := h_v30
      refine lv_istore (lv' := [(4, .int v30), (3, .int (-2)), (2, .int 0), (0, .ref a0), (1, .int a1)]) hx hb dX12_ruled_33 hl (by decide) rfl (fun ls hl => ?_)
      have J35 : ∀ (n : Nat) (H : Heap) (locs : List Loc) (ls : Array Slot), (∃ (w35 : va_W) (p35_l2 : Int32) (p35_l3 : Int32) (p35_l4 : Int32), tW (dC, dI) tys κ B A s w35 H locs ∧ Sm [(12, 18), (12, 21), (12, 24)] [61, 62, 63, 64, 66, 70, 71] κ ws w35 ∧ (-2147483648) ≤ p35_l2.toInt ∧ p35_l2.toInt ≤ 2147483647 ∧ (-2) ≤ p35_l3.toInt ∧ p35_l3.toInt ≤ 5 ∧ (-1) ≤ p35_l4.toInt ∧ p35_l4.toInt ≤ 6 ∧ fld w35 a0 12 2 (.int v30) ∧ fld w35 a0 12 20 (.ref f0) ∧ elt w35 f0 (10 : Int32).toInt.toNat v21d ∧ lv_has ls 5 [(0, .ref a0), (1, .int a1), (2, .int p35_l2), (3, .int p35_l3), (4, .int p35_l4)] ∧ (p35_l4.toInt - (-1)).toNat = n) → W p l e (headSpec (ws_u yX12_ruled cX12_ruled 5 (some .int)) ({ frames := 10, cells := 0, slots := 0, locals := 234 })).room s m ([.ref a0, .int a1] : List Value).toArray below meth c H locs 0 0 QQ (F0 m 35 ls []) := by
        refine loopT _ ?_
        intro n_35 H locs ls hI ih_35
        obtain ⟨w35, p35_l2, p35_l3, p35_l4, hw, hM, l_p35_l2, h_p35_l2, l_p35_l3, h_p35_l3, l_p35_l4, h_p35_l4, f_a0_X12_2, f_a0_X12_20, f_f0_M_said_10, hl, hn_35⟩ := hI
        refine lv_iload hx hb dX12_ruled_35 (lv_at hl 4 rfl) ?_
        refine lv_if_lt (tgt := 67) hx hb dX12_ruled_37 (by decide) (fun c_37 => ?_) (fun c_37 => ?_)
        · simp only [fa_lt, fa_le, fa_eq, li_0] at c_37
          refine lv_iload_n hx hb dX12_ruled_67 rfl (lv_at hl 1 rfl) ?_
          refine lv_if_ne (tgt := 75) hx hb dX12_ruled_68 (by decide) (fun c_68 => ?_) (fun c_68 => ?_)
          · simp only [fa_lt, fa_le, fa_eq, li_0] at c_68
            refine lv_iload_n hx hb dX12_ruled_75 rfl (lv_at hl 3 rfl) ?_
            rw [hQ]
            refine W.widen (k := 0) (n := 0) (Nat.le_refl _) (Nat.le_refl _) ?_
            exact W.iret (v := p35_l3) hx hb hr (fun t ht hW => ⟨⟨p35_l3, w35, rfl, ⟨hw.2.2.2.2, hM, ⟨v21d, (by omega), (by omega), f_f0_M_said_10⟩⟩, by rw [ht]; exact hw.2.1, va_K.moved hW.alike hw.1, hw.2.2.1⟩, hw.2.2.2.1.F ht⟩) hw.2.2.2.1.2.2 dX12_ruled_76
          · simp only [fa_lt, fa_le, fa_eq, li_0] at c_68
            refine lv_iload_n hx hb dX12_ruled_71 rfl (lv_at hl 2 rfl) ?_
            refine lv_goto (tgt := 76) hx hb dX12_ruled_72 (by decide) ?_
            rw [hQ]
            refine W.widen (k := 0) (n := 0) (Nat.le_refl _) (Nat.le_refl _) ?_
            exact W.iret (v := p35_l2) hx hb hr (fun t ht hW => ⟨⟨p35_l2, w35, rfl, ⟨hw.2.2.2.2, hM, ⟨v21d, (by omega), (by omega), f_f0_M_said_10⟩⟩, by rw [ht]; exact hw.2.1, va_K.moved hW.alike hw.1, hw.2.2.1⟩, hw.2.2.2.1.F ht⟩) hw.2.2.2.1.2.2 dX12_ruled_76
        · simp only [fa_lt, fa_le, fa_eq, li_0] at c_37
          refine lv_aload_n hx hb dX12_ruled_40 rfl (lv_at hl 0 rfl) ?_
          refine t_getr (k1 := 70) (ci := 12) (C := RX12) (T := TX12) (N := 38) hx hb hts iX12 hown hw k_a0 rfl rfl rfl 31 (by decide) (hts _ tw_1156) (fun _ h9 => h9) dX12_ruled_41 rfl (fun v41 k_v41 f_a0_X12_31 => ?_)
          refine lv_iload hx hb dX12_ruled_44 (lv_at hl 4 rfl) ?_
          refine t_zald hx hb hw k_v41 rfl rfl (by omega) (show p35_l4.toInt < 7 by omega) dX12_ruled_46 (fun v46 r_v46 s_v46 q_v46 => ?_)
          have l_v46 := i32_lo v46
          have h_v46 := i32_hi v46
          have J61 : ∀ (H : Heap) (locs : List Loc) (ls : Array Slot) (w61 : va_W) (p61_l2 : Int32) (p61_l3 : Int32), tW (dC, dI) tys κ B A s w61 H locs → Sm [(12, 18), (12, 21), (12, 24)] [61, 62, 63, 64, 66, 70, 71] κ ws w61 → (-2147483648) ≤ p61_l2.toInt → p61_l2.toInt ≤ 2147483647 → (-2) ≤ p61_l3.toInt → p61_l3.toInt ≤ 5 → fld w61 a0 12 2 (.int v30) → fld w61 a0 12 20 (.ref f0) → fld w61 a0 12 31 (.ref v41) → elt w61 f0 (10 : Int32).toInt.toNat v21d → lv_has ls 5 [(0, .ref a0), (1, .int a1), (2, .int p61_l2), (3, .int p61_l3), (4, .int p35_l4)] → W p l e (headSpec (ws_u yX12_ruled cX12_ruled 5 (some .int)) ({ frames := 10, cells := 0, slots := 0, locals := 234 })).room s m ([.ref a0, .int a1] : List Value).toArray below meth c H locs 0 0 QQ (F0 m 61 ls []) := by
            intro H locs ls w61 p61_l2 p61_l3 hw hM l_p61_l2 h_p61_l2 l_p61_l3 h_p61_l3 f_a0_X12_2 f_a0_X12_20 f_a0_X12_31 f_f0_M_said_10 hl
            obtain ⟨v61, e_v61⟩ : ∃ y : Int32, y = p35_l4 + (-1) := ⟨_, rfl⟩
            refine lv_iinc (v := v61) (lv' := [(4, .int v61), (0, .ref a0), (1, .int a1), (2, .int p61_l2), (3, .int p61_l3)]) hx hb dX12_ruled_61 hl (k := 4) rfl e_v61.symm (by decide) rfl (fun ls hl => ?_)
            have e_v61 : v61.toInt = p35_l4.toInt + (-1) := ad_i e_v61 rfl li_m1 (by omega) (by omega)
            refine lv_goto (tgt := 35) hx hb dX12_ruled_64 (by decide) ?_
            exact ih_35 _ _ _ _ (by omega) ⟨w61, p61_l2, p61_l3, v61, hw, hM, (by omega), (by omega), (by omega), (by omega), (by omega), (by omega), f_a0_X12_2, f_a0_X12_20, f_f0_M_said_10, (lv_sub hl [1, 2, 3, 4, 0] rfl), rfl⟩
          refine lv_if_ne (tgt := 53) hx hb dX12_ruled_47 (by decide) (fun c_47 => ?_) (fun c_47 => ?_)
          · simp only [fa_lt, fa_le, fa_eq, li_0] at c_47
            refine lv_iload hx hb dX12_ruled_53 (lv_at hl 4 rfl) ?_
            refine lv_iconst (v := 1) hx hb dX12_ruled_55 (by decide) ?_
            refine lv_isub hx hb dX12_ruled_56 ?_
            refine lv_topi (fun v56 e_v56 => ?_)
            have e_v56 : v56.toInt = p35_l4.toInt - 1 := sb_i e_v56 rfl li_1 (by omega) (by omega)
            refine lv_istore_n (lv' := [(3, .int v56), (0, .ref a0), (1, .int a1), (2, .int p35_l2), (4, .int p35_l4)]) hx hb dX12_ruled_57 rfl hl (by decide) rfl (fun ls hl => ?_)
            obtain ⟨v58, e_v58⟩ : ∃ y : Int32, y = p35_l2 + 1 := ⟨_, rfl⟩
            refine lv_iinc (v := v58) (lv' := [(2, .int v58), (3, .int v56), (0, .ref a0), (1, .int a1), (4, .int p35_l4)]) hx hb dX12_ruled_58 hl (k := 3) rfl e_v58.symm (by decide) rfl (fun ls hl => ?_)
            have l_v58 := i32_lo v58
            have h_v58 := i32_hi v58
            exact J61 _ _ _ w35 v58 v56 hw hM (by omega) (by omega) (by omega) (by omega) f_a0_X12_2 f_a0_X12_20 f_a0_X12_31 f_f0_M_said_10 (lv_sub hl [2, 3, 0, 1, 4] rfl)
          · simp only [fa_lt, fa_le, fa_eq, li_0] at c_47
            refine lv_goto (tgt := 61) hx hb dX12_ruled_50 (by decide) ?_
            exact J61 _ _ _ w35 p35_l2 p35_l3 hw hM (by omega) (by omega) (by omega) (by omega) f_a0_X12_2 f_a0_X12_20 f_a0_X12_31 f_f0_M_said_10 (lv_sub hl [0, 1, 2, 3, 4] rfl)
      exact J35 _ _ _ _ ⟨w_3, 0, (-2), v30, hw, hM, (by decide), (by decide), (by decide), (by decide), (by omega), (by omega), f_a0_X12_2, f_a0_X12_20, f_f0_M_said_10, (lv_sub hl [3, 4, 2, 1, 0] rfl), rfl⟩
    · simp only [fa_lt, fa_le, fa_eq, li_0] at c_14
      refine lv_bipush (v := (-3)) hx hb dX12_ruled_17 (by decide) ?_
      rw [hQ]
      refine W.widen (k := 0) (n := 0) (Nat.le_refl _) (Nat.le_refl _) ?_
      exact W.iret (v := (-3)) hx hb hr (fun t ht hW => ⟨⟨(-3), w_2, rfl, ⟨hw.2.2.2.2, hM, ⟨f1, (by omega), (by omega), f_f0_M_said_10⟩⟩, by rw [ht]; exact hw.2.1, va_K.moved hW.alike hw.1, hw.2.2.1⟩, hw.2.2.2.1.F ht⟩) hw.2.2.2.1.2.2 dX12_ruled_19
