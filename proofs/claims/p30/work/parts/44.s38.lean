theorem ts_4_14 : Cond.selects "BoyBishopModel" ⟨"BoyBishopModel", "opens", "(I)Z"⟩ ⟨"BoyBishopModel", "opens", "(I)Z"⟩ ∈ gT := gT_in (List.mem_append_left _ (List.mem_map.mpr ⟨(⟨"BoyBishopModel", "opens", "(I)Z"⟩, 38), (List.mem_append_right _ (List.mem_append_right _ (List.mem_append_right _ (List.mem_append_right _ (List.mem_append_left _ (List.mem_of_getElem? (i := 14) rfl)))))), rfl⟩)) rfl
theorem ts_4_15 : Cond.selects "BoyBishopModel" ⟨"BoyBishopModel", "compare", "()Z"⟩ ⟨"BoyBishopModel", "compare", "()Z"⟩ ∈ gT := gT_in (List.mem_append_left _ (List.mem_map.mpr ⟨(⟨"BoyBishopModel", "compare", "()Z"⟩, 38), (List.mem_append_right _ (List.mem_append_right _ (List.mem_append_right _ (List.mem_append_right _ (List.mem_append_left _ (List.mem_of_getElem? (i := 15) rfl)))))), rfl⟩)) rfl
theorem ts_4_5 : Cond.selects "BoyBishopModel" ⟨"BoyBishopModel", "sum", "()Z"⟩ ⟨"BoyBishopModel", "sum", "()Z"⟩ ∈ gT := gT_in (List.mem_append_left _ (List.mem_map.mpr ⟨(⟨"BoyBishopModel", "sum", "()Z"⟩, 38), (List.mem_append_right _ (List.mem_append_right _ (List.mem_append_right _ (List.mem_append_right _ (List.mem_append_left _ (List.mem_of_getElem? (i := 5) rfl)))))), rfl⟩)) rfl
theorem ts_5_1 : Cond.selects "BoyBishopModel" ⟨"BoyBishopModel", "settles", "(I)V"⟩ ⟨"BoyBishopModel", "settles", "(I)V"⟩ ∈ gT := gT_in (List.mem_append_left _ (List.mem_map.mpr ⟨(⟨"BoyBishopModel", "settles", "(I)V"⟩, 38), (List.mem_append_right _ (List.mem_append_right _ (List.mem_append_right _ (List.mem_append_right _ (List.mem_append_right _ (List.mem_append_left _ (List.mem_of_getElem? (i := 1) rfl))))))), rfl⟩)) rfl
theorem ts_5_2 : Cond.selects "BoyBishopModel" ⟨"BoyBishopModel", "isInside", "()Z"⟩ ⟨"BoyBishopModel", "isInside", "()Z"⟩ ∈ gT := gT_in (List.mem_append_left _ (List.mem_map.mpr ⟨(⟨"BoyBishopModel", "isInside", "()Z"⟩, 38), (List.mem_append_right _ (List.mem_append_right _ (List.mem_append_right _ (List.mem_append_right _ (List.mem_append_right _ (List.mem_append_left _ (List.mem_of_getElem? (i := 2) rfl))))))), rfl⟩)) rfl
theorem tw_1347 : (Jvm.Cond.methodLink "BoyBishopModel" (184 : Nat) ({ cls := "BoyBishopModel", name := "sum", desc := "()Z" } : Jvm.MethodName)) ∈ gT := gT_in (List.mem_append_right _ (List.mem_append_right _ (List.mem_append_right _ (List.mem_append_right _ (List.mem_append_right _ (List.mem_append_right _ (List.mem_append_left _ (List.mem_of_getElem? (i := 147) rfl)))))))) rfl
theorem tw_1349 : (Jvm.Cond.instanceMethod ({ cls := "BoyBishopModel", name := "sum", desc := "()Z" } : Jvm.MethodName)) ∈ gT := gT_in (List.mem_append_right _ (List.mem_append_right _ (List.mem_append_right _ (List.mem_append_right _ (List.mem_append_right _ (List.mem_append_right _ (List.mem_append_left _ (List.mem_of_getElem? (i := 149) rfl)))))))) rfl
theorem tw_1350 : (Jvm.Cond.code ({ cls := "BoyBishopModel", name := "sum", desc := "()Z" } : Jvm.MethodName) prog_14_method_25_code (2 : Nat) (Option.some Jvm.ClassFile.FieldType.boolean)) ∈ gT := gT_in (List.mem_append_right _ (List.mem_append_right _ (List.mem_append_right _ (List.mem_append_right _ (List.mem_append_right _ (List.mem_append_right _ (List.mem_append_left _ (List.mem_of_getElem? (i := 150) rfl)))))))) rfl
theorem tw_1394 : (Jvm.Cond.constantLong "BoyBishopModel" (187 : Nat) (7237492 : Int64)) ∈ gT := gT_in (List.mem_append_right _ (List.mem_append_right _ (List.mem_append_right _ (List.mem_append_right _ (List.mem_append_right _ (List.mem_append_right _ (List.mem_append_left _ (List.mem_of_getElem? (i := 194) rfl)))))))) rfl
theorem tw_1395 : (Jvm.Cond.methodLink "BoyBishopModel" (189 : Nat) ({ cls := "BoyBishopModel", name := "opens", desc := "(I)Z" } : Jvm.MethodName)) ∈ gT := gT_in (List.mem_append_right _ (List.mem_append_right _ (List.mem_append_right _ (List.mem_append_right _ (List.mem_append_right _ (List.mem_append_right _ (List.mem_append_left _ (List.mem_of_getElem? (i := 195) rfl)))))))) rfl
theorem tw_1397 : (Jvm.Cond.instanceMethod ({ cls := "BoyBishopModel", name := "opens", desc := "(I)Z" } : Jvm.MethodName)) ∈ gT := gT_in (List.mem_append_right _ (List.mem_append_right _ (List.mem_append_right _ (List.mem_append_right _ (List.mem_append_right _ (List.mem_append_right _ (List.mem_append_left _ (List.mem_of_getElem? (i := 197) rfl)))))))) rfl
theorem tw_1398 : (Jvm.Cond.code ({ cls := "BoyBishopModel", name := "opens", desc := "(I)Z" } : Jvm.MethodName) prog_14_method_20_code (2 : Nat) (Option.some Jvm.ClassFile.FieldType.boolean)) ∈ gT := gT_in (List.mem_append_right _ (List.mem_append_right _ (List.mem_append_right _ (List.mem_append_right _ (List.mem_append_right _ (List.mem_append_right _ (List.mem_append_left _ (List.mem_of_getElem? (i := 198) rfl)))))))) rfl
theorem tw_1399 : (Jvm.Cond.methodLink "BoyBishopModel" (192 : Nat) ({ cls := "BoyBishopModel", name := "compare", desc := "()Z" } : Jvm.MethodName)) ∈ gT := gT_in (List.mem_append_right _ (List.mem_append_right _ (List.mem_append_right _ (List.mem_append_right _ (List.mem_append_right _ (List.mem_append_right _ (List.mem_append_left _ (List.mem_of_getElem? (i := 199) rfl)))))))) rfl
theorem tw_1401 : (Jvm.Cond.instanceMethod ({ cls := "BoyBishopModel", name := "compare", desc := "()Z" } : Jvm.MethodName)) ∈ gT := gT_in (List.mem_append_right _ (List.mem_append_right _ (List.mem_append_right _ (List.mem_append_right _ (List.mem_append_right _ (List.mem_append_right _ (List.mem_append_left _ (List.mem_of_getElem? (i := 201) rfl)))))))) rfl
theorem tw_1402 : (Jvm.Cond.code ({ cls := "BoyBishopModel", name := "compare", desc := "()Z" } : Jvm.MethodName) prog_14_method_26_code (5 : Nat) (Option.some Jvm.ClassFile.FieldType.boolean)) ∈ gT := gT_in (List.mem_append_right _ (List.mem_append_right _ (List.mem_append_right _ (List.mem_append_right _ (List.mem_append_right _ (List.mem_append_right _ (List.mem_append_left _ (List.mem_of_getElem? (i := 202) rfl)))))))) rfl
theorem tw_1407 : (Jvm.Cond.methodLink "BoyBishopModel" (195 : Nat) ({ cls := "BoyBishopModel", name := "settles", desc := "(I)V" } : Jvm.MethodName)) ∈ gT := gT_in (List.mem_append_right _ (List.mem_append_right _ (List.mem_append_right _ (List.mem_append_right _ (List.mem_append_right _ (List.mem_append_right _ (List.mem_append_left _ (List.mem_of_getElem? (i := 207) rfl)))))))) rfl
theorem tw_1409 : (Jvm.Cond.instanceMethod ({ cls := "BoyBishopModel", name := "settles", desc := "(I)V" } : Jvm.MethodName)) ∈ gT := gT_in (List.mem_append_right _ (List.mem_append_right _ (List.mem_append_right _ (List.mem_append_right _ (List.mem_append_right _ (List.mem_append_right _ (List.mem_append_left _ (List.mem_of_getElem? (i := 209) rfl)))))))) rfl
theorem tw_1410 : (Jvm.Cond.code ({ cls := "BoyBishopModel", name := "settles", desc := "(I)V" } : Jvm.MethodName) prog_14_method_22_code (2 : Nat) (Option.none : Option Jvm.ClassFile.FieldType)) ∈ gT := gT_in (List.mem_append_right _ (List.mem_append_right _ (List.mem_append_right _ (List.mem_append_right _ (List.mem_append_right _ (List.mem_append_right _ (List.mem_append_left _ (List.mem_of_getElem? (i := 210) rfl)))))))) rfl
theorem tw_1414 : (Jvm.Cond.methodLink "BoyBishopModel" (198 : Nat) ({ cls := "BoyBishopModel", name := "isInside", desc := "()Z" } : Jvm.MethodName)) ∈ gT := gT_in (List.mem_append_right _ (List.mem_append_right _ (List.mem_append_right _ (List.mem_append_right _ (List.mem_append_right _ (List.mem_append_right _ (List.mem_append_left _ (List.mem_of_getElem? (i := 214) rfl)))))))) rfl
theorem tw_1416 : (Jvm.Cond.instanceMethod ({ cls := "BoyBishopModel", name := "isInside", desc := "()Z" } : Jvm.MethodName)) ∈ gT := gT_in (List.mem_append_right _ (List.mem_append_right _ (List.mem_append_right _ (List.mem_append_right _ (List.mem_append_right _ (List.mem_append_right _ (List.mem_append_left _ (List.mem_of_getElem? (i := 216) rfl)))))))) rfl
theorem tw_1417 : (Jvm.Cond.code ({ cls := "BoyBishopModel", name := "isInside", desc := "()Z" } : Jvm.MethodName) prog_14_method_28_code (2 : Nat) (Option.some Jvm.ClassFile.FieldType.boolean)) ∈ gT := gT_in (List.mem_append_right _ (List.mem_append_right _ (List.mem_append_right _ (List.mem_append_right _ (List.mem_append_right _ (List.mem_append_right _ (List.mem_append_left _ (List.mem_of_getElem? (i := 217) rfl)))))))) rfl
theorem dX12_closes_0 : decode cX12_closes 0 = .ok (.aload_n 0, 1) := by decide +kernel
theorem dX12_closes_1 : decode cX12_closes 1 = .ok (.iconst 3, 1) := by decide +kernel
theorem dX12_closes_2 : decode cX12_closes 2 = .ok (.invokevirtual 195, 3) := by decide +kernel
theorem dX12_closes_5 : decode cX12_closes 5 = .ok (.aload_n 0, 1) := by decide +kernel
theorem dX12_closes_6 : decode cX12_closes 6 = .ok (.invokevirtual 96, 3) := by decide +kernel
theorem dX12_closes_9 : decode cX12_closes 9 = .ok (.bipush 93, 2) := by decide +kernel
theorem dX12_closes_11 : decode cX12_closes 11 = .ok (.if_icmp .ne 53, 3) := by decide +kernel
theorem dX12_closes_14 : decode cX12_closes 14 = .ok (.aload_n 0, 1) := by decide +kernel
theorem dX12_closes_15 : decode cX12_closes 15 = .ok (.invokevirtual 198, 3) := by decide +kernel
theorem dX12_closes_18 : decode cX12_closes 18 = .ok (.ifCond .eq 46, 3) := by decide +kernel
theorem dX12_closes_21 : decode cX12_closes 21 = .ok (.aload_n 0, 1) := by decide +kernel
theorem dX12_closes_22 : decode cX12_closes 22 = .ok (.iconst 1, 1) := by decide +kernel
theorem dX12_closes_23 : decode cX12_closes 23 = .ok (.invokevirtual 195, 3) := by decide +kernel
theorem dX12_closes_26 : decode cX12_closes 26 = .ok (.aload_n 0, 1) := by decide +kernel
theorem dX12_closes_27 : decode cX12_closes 27 = .ok (.dup, 1) := by decide +kernel
theorem dX12_closes_28 : decode cX12_closes 28 = .ok (.getfield 156, 3) := by decide +kernel
theorem dX12_closes_31 : decode cX12_closes 31 = .ok (.iconst 1, 1) := by decide +kernel
theorem dX12_closes_32 : decode cX12_closes 32 = .ok (.isub, 1) := by decide +kernel
theorem dX12_closes_33 : decode cX12_closes 33 = .ok (.putfield 156, 3) := by decide +kernel
theorem dX12_closes_36 : decode cX12_closes 36 = .ok (.aload_n 0, 1) := by decide +kernel
theorem dX12_closes_37 : decode cX12_closes 37 = .ok (.dup, 1) := by decide +kernel
theorem dX12_closes_38 : decode cX12_closes 38 = .ok (.getfield 153, 3) := by decide +kernel
theorem dX12_closes_41 : decode cX12_closes 41 = .ok (.iconst 1, 1) := by decide +kernel
theorem dX12_closes_42 : decode cX12_closes 42 = .ok (.isub, 1) := by decide +kernel
theorem dX12_closes_43 : decode cX12_closes 43 = .ok (.putfield 153, 3) := by decide +kernel
theorem dX12_closes_46 : decode cX12_closes 46 = .ok (.aload_n 0, 1) := by decide +kernel
theorem dX12_closes_47 : decode cX12_closes 47 = .ok (.dup, 1) := by decide +kernel
theorem dX12_closes_48 : decode cX12_closes 48 = .ok (.getfield 93, 3) := by decide +kernel
theorem dX12_closes_51 : decode cX12_closes 51 = .ok (.iconst 1, 1) := by decide +kernel
theorem dX12_closes_52 : decode cX12_closes 52 = .ok (.iadd, 1) := by decide +kernel
theorem dX12_closes_53 : decode cX12_closes 53 = .ok (.putfield 93, 3) := by decide +kernel
theorem dX12_closes_56 : decode cX12_closes 56 = .ok (.aload_n 0, 1) := by decide +kernel
theorem dX12_closes_57 : decode cX12_closes 57 = .ok (.iconst 3, 1) := by decide +kernel
theorem dX12_closes_58 : decode cX12_closes 58 = .ok (.invokevirtual 195, 3) := by decide +kernel
theorem dX12_closes_61 : decode cX12_closes 61 = .ok (.goto (-56), 3) := by decide +kernel
theorem dX12_closes_64 : decode cX12_closes 64 = .ok (.return_, 1) := by decide +kernel
theorem dX12_compare_0 : decode cX12_compare 0 = .ok (.aload_n 0, 1) := by decide +kernel
theorem dX12_compare_1 : decode cX12_compare 1 = .ok (.invokevirtual 184, 3) := by decide +kernel
theorem dX12_compare_4 : decode cX12_compare 4 = .ok (.ifCond .ne 5, 3) := by decide +kernel
theorem dX12_compare_7 : decode cX12_compare 7 = .ok (.iconst 0, 1) := by decide +kernel
theorem dX12_compare_8 : decode cX12_compare 8 = .ok (.ireturn, 1) := by decide +kernel
theorem dX12_compare_9 : decode cX12_compare 9 = .ok (.aload_n 0, 1) := by decide +kernel
theorem dX12_compare_10 : decode cX12_compare 10 = .ok (.invokevirtual 96, 3) := by decide +kernel
theorem dX12_compare_13 : decode cX12_compare 13 = .ok (.istore_n 1, 1) := by decide +kernel
theorem dX12_compare_14 : decode cX12_compare 14 = .ok (.aload_n 0, 1) := by decide +kernel
theorem dX12_compare_15 : decode cX12_compare 15 = .ok (.getfield 93, 3) := by decide +kernel
theorem dX12_compare_18 : decode cX12_compare 18 = .ok (.istore_n 2, 1) := by decide +kernel
theorem dX12_compare_19 : decode cX12_compare 19 = .ok (.iload_n 1, 1) := by decide +kernel
theorem dX12_compare_20 : decode cX12_compare 20 = .ok (.bipush 60, 2) := by decide +kernel
theorem dX12_compare_22 : decode cX12_compare 22 = .ok (.if_icmp .eq 22, 3) := by decide +kernel
theorem dX12_compare_25 : decode cX12_compare 25 = .ok (.iload_n 1, 1) := by decide +kernel
theorem dX12_compare_26 : decode cX12_compare 26 = .ok (.bipush 61, 2) := by decide +kernel
theorem dX12_compare_28 : decode cX12_compare 28 = .ok (.if_icmp .eq 16, 3) := by decide +kernel
theorem dX12_compare_31 : decode cX12_compare 31 = .ok (.iload_n 1, 1) := by decide +kernel
theorem dX12_compare_32 : decode cX12_compare 32 = .ok (.bipush 62, 2) := by decide +kernel
theorem dX12_compare_34 : decode cX12_compare 34 = .ok (.if_icmp .eq 10, 3) := by decide +kernel
theorem dX12_compare_37 : decode cX12_compare 37 = .ok (.aload_n 0, 1) := by decide +kernel
theorem dX12_compare_38 : decode cX12_compare 38 = .ok (.iconst 0, 1) := by decide +kernel
theorem dX12_compare_39 : decode cX12_compare 39 = .ok (.iload_n 2, 1) := by decide +kernel
theorem dX12_compare_40 : decode cX12_compare 40 = .ok (.invokevirtual 114, 3) := by decide +kernel
theorem dX12_compare_43 : decode cX12_compare 43 = .ok (.ireturn, 1) := by decide +kernel
theorem dX12_compare_44 : decode cX12_compare 44 = .ok (.aload_n 0, 1) := by decide +kernel
theorem dX12_compare_45 : decode cX12_compare 45 = .ok (.dup, 1) := by decide +kernel
theorem dX12_compare_46 : decode cX12_compare 46 = .ok (.getfield 93, 3) := by decide +kernel
theorem dX12_compare_49 : decode cX12_compare 49 = .ok (.iconst 1, 1) := by decide +kernel
theorem dX12_compare_50 : decode cX12_compare 50 = .ok (.iadd, 1) := by decide +kernel
theorem dX12_compare_51 : decode cX12_compare 51 = .ok (.putfield 93, 3) := by decide +kernel
theorem dX12_compare_54 : decode cX12_compare 54 = .ok (.iload_n 1, 1) := by decide +kernel
theorem dX12_compare_55 : decode cX12_compare 55 = .ok (.bipush 61, 2) := by decide +kernel
theorem dX12_compare_57 : decode cX12_compare 57 = .ok (.if_icmp .eq 32, 3) := by decide +kernel
theorem dX12_compare_60 : decode cX12_compare 60 = .ok (.aload_n 0, 1) := by decide +kernel
theorem dX12_compare_61 : decode cX12_compare 61 = .ok (.getfield 93, 3) := by decide +kernel
theorem dX12_compare_64 : decode cX12_compare 64 = .ok (.aload_n 0, 1) := by decide +kernel
theorem dX12_compare_65 : decode cX12_compare 65 = .ok (.getfield 83, 3) := by decide +kernel
theorem dX12_compare_68 : decode cX12_compare 68 = .ok (.if_icmp .ge 21, 3) := by decide +kernel
theorem dX12_compare_71 : decode cX12_compare 71 = .ok (.aload_n 0, 1) := by decide +kernel
theorem dX12_compare_72 : decode cX12_compare 72 = .ok (.getfield 7, 3) := by decide +kernel
theorem dX12_compare_75 : decode cX12_compare 75 = .ok (.aload_n 0, 1) := by decide +kernel
theorem dX12_compare_76 : decode cX12_compare 76 = .ok (.getfield 93, 3) := by decide +kernel
theorem dX12_compare_79 : decode cX12_compare 79 = .ok (.baload, 1) := by decide +kernel
theorem dX12_compare_80 : decode cX12_compare 80 = .ok (.bipush 61, 2) := by decide +kernel
theorem dX12_compare_82 : decode cX12_compare 82 = .ok (.if_icmp .ne 7, 3) := by decide +kernel
theorem dX12_compare_85 : decode cX12_compare 85 = .ok (.iconst 1, 1) := by decide +kernel
theorem dX12_compare_86 : decode cX12_compare 86 = .ok (.goto 4, 3) := by decide +kernel
theorem dX12_compare_89 : decode cX12_compare 89 = .ok (.iconst 0, 1) := by decide +kernel
theorem dX12_compare_90 : decode cX12_compare 90 = .ok (.istore_n 3, 1) := by decide +kernel
theorem dX12_compare_91 : decode cX12_compare 91 = .ok (.iload_n 3, 1) := by decide +kernel
theorem dX12_compare_92 : decode cX12_compare 92 = .ok (.ifCond .eq 13, 3) := by decide +kernel
theorem dX12_compare_95 : decode cX12_compare 95 = .ok (.aload_n 0, 1) := by decide +kernel
theorem dX12_compare_96 : decode cX12_compare 96 = .ok (.dup, 1) := by decide +kernel
theorem dX12_compare_97 : decode cX12_compare 97 = .ok (.getfield 93, 3) := by decide +kernel
theorem dX12_compare_100 : decode cX12_compare 100 = .ok (.iconst 1, 1) := by decide +kernel
theorem dX12_compare_101 : decode cX12_compare 101 = .ok (.iadd, 1) := by decide +kernel
theorem dX12_compare_102 : decode cX12_compare 102 = .ok (.putfield 93, 3) := by decide +kernel
theorem dX12_compare_105 : decode cX12_compare 105 = .ok (.aload_n 0, 1) := by decide +kernel
theorem dX12_compare_106 : decode cX12_compare 106 = .ok (.iload_n 2, 1) := by decide +kernel
theorem dX12_compare_107 : decode cX12_compare 107 = .ok (.invokevirtual 171, 3) := by decide +kernel
theorem dX12_compare_110 : decode cX12_compare 110 = .ok (.ifCond .ne 5, 3) := by decide +kernel
theorem dX12_compare_113 : decode cX12_compare 113 = .ok (.iconst 0, 1) := by decide +kernel
theorem dX12_compare_114 : decode cX12_compare 114 = .ok (.ireturn, 1) := by decide +kernel
theorem dX12_compare_115 : decode cX12_compare 115 = .ok (.iload_n 1, 1) := by decide +kernel
theorem dX12_compare_116 : decode cX12_compare 116 = .ok (.bipush 60, 2) := by decide +kernel
theorem dX12_compare_118 : decode cX12_compare 118 = .ok (.if_icmp .ne 15, 3) := by decide +kernel
theorem dX12_compare_121 : decode cX12_compare 121 = .ok (.iload_n 3, 1) := by decide +kernel
theorem dX12_compare_122 : decode cX12_compare 122 = .ok (.ifCond .eq 7, 3) := by decide +kernel
theorem dX12_compare_125 : decode cX12_compare 125 = .ok (.iconst 1, 1) := by decide +kernel
theorem dX12_compare_126 : decode cX12_compare 126 = .ok (.goto 26, 3) := by decide +kernel
theorem dX12_compare_129 : decode cX12_compare 129 = .ok (.iconst 0, 1) := by decide +kernel
theorem dX12_compare_130 : decode cX12_compare 130 = .ok (.goto 22, 3) := by decide +kernel
theorem dX12_compare_133 : decode cX12_compare 133 = .ok (.iload_n 1, 1) := by decide +kernel
theorem dX12_compare_134 : decode cX12_compare 134 = .ok (.bipush 61, 2) := by decide +kernel
theorem dX12_compare_136 : decode cX12_compare 136 = .ok (.if_icmp .ne 7, 3) := by decide +kernel
theorem dX12_compare_139 : decode cX12_compare 139 = .ok (.iconst 2, 1) := by decide +kernel
theorem dX12_compare_140 : decode cX12_compare 140 = .ok (.goto 12, 3) := by decide +kernel
theorem dX12_compare_143 : decode cX12_compare 143 = .ok (.iload_n 3, 1) := by decide +kernel
theorem dX12_compare_144 : decode cX12_compare 144 = .ok (.ifCond .eq 7, 3) := by decide +kernel
theorem dX12_compare_147 : decode cX12_compare 147 = .ok (.iconst 3, 1) := by decide +kernel
theorem dX12_compare_148 : decode cX12_compare 148 = .ok (.goto 4, 3) := by decide +kernel
theorem dX12_compare_151 : decode cX12_compare 151 = .ok (.iconst 4, 1) := by decide +kernel
theorem dX12_compare_152 : decode cX12_compare 152 = .ok (.istore 4, 2) := by decide +kernel
theorem dX12_compare_154 : decode cX12_compare 154 = .ok (.aload_n 0, 1) := by decide +kernel
theorem dX12_compare_155 : decode cX12_compare 155 = .ok (.invokevirtual 184, 3) := by decide +kernel
theorem dX12_compare_158 : decode cX12_compare 158 = .ok (.ifCond .ne 5, 3) := by decide +kernel
theorem dX12_compare_161 : decode cX12_compare 161 = .ok (.iconst 0, 1) := by decide +kernel
theorem dX12_compare_162 : decode cX12_compare 162 = .ok (.ireturn, 1) := by decide +kernel
theorem dX12_compare_163 : decode cX12_compare 163 = .ok (.aload_n 0, 1) := by decide +kernel
theorem dX12_compare_164 : decode cX12_compare 164 = .ok (.bipush 6, 2) := by decide +kernel
theorem dX12_compare_166 : decode cX12_compare 166 = .ok (.iload 4, 2) := by decide +kernel
theorem dX12_compare_168 : decode cX12_compare 168 = .ok (.iadd, 1) := by decide +kernel
theorem dX12_compare_169 : decode cX12_compare 169 = .ok (.iconst 0, 1) := by decide +kernel
theorem dX12_compare_170 : decode cX12_compare 170 = .ok (.invokevirtual 163, 3) := by decide +kernel
theorem dX12_compare_173 : decode cX12_compare 173 = .ok (.iconst 1, 1) := by decide +kernel
theorem dX12_compare_174 : decode cX12_compare 174 = .ok (.ireturn, 1) := by decide +kernel
theorem dX12_fact_0 : decode cX12_fact 0 = .ok (.iconst 1, 1) := by decide +kernel
theorem dX12_fact_1 : decode cX12_fact 1 = .ok (.istore_n 1, 1) := by decide +kernel
theorem dX12_fact_2 : decode cX12_fact 2 = .ok (.iload_n 1, 1) := by decide +kernel
theorem dX12_fact_3 : decode cX12_fact 3 = .ok (.ifCond .eq 72, 3) := by decide +kernel
theorem dX12_fact_6 : decode cX12_fact 6 = .ok (.iconst 0, 1) := by decide +kernel
theorem dX12_fact_7 : decode cX12_fact 7 = .ok (.istore_n 1, 1) := by decide +kernel
theorem dX12_fact_8 : decode cX12_fact 8 = .ok (.aload_n 0, 1) := by decide +kernel
theorem dX12_fact_9 : decode cX12_fact 9 = .ok (.invokevirtual 96, 3) := by decide +kernel
theorem dX12_fact_12 : decode cX12_fact 12 = .ok (.istore_n 2, 1) := by decide +kernel
theorem dX12_fact_13 : decode cX12_fact 13 = .ok (.aload_n 0, 1) := by decide +kernel
theorem dX12_fact_14 : decode cX12_fact 14 = .ok (.ldc2_w 187, 3) := by decide +kernel
theorem dX12_fact_17 : decode cX12_fact 17 = .ok (.invokevirtual 104, 3) := by decide +kernel
theorem dX12_fact_20 : decode cX12_fact 20 = .ok (.ifCond .eq 23, 3) := by decide +kernel
theorem dX12_fact_23 : decode cX12_fact 23 = .ok (.aload_n 0, 1) := by decide +kernel
theorem dX12_fact_24 : decode cX12_fact 24 = .ok (.bipush 11, 2) := by decide +kernel
theorem dX12_fact_26 : decode cX12_fact 26 = .ok (.invokevirtual 189, 3) := by decide +kernel
theorem dX12_fact_29 : decode cX12_fact 29 = .ok (.ifCond .ne 5, 3) := by decide +kernel
theorem dX12_fact_32 : decode cX12_fact 32 = .ok (.iconst 0, 1) := by decide +kernel
theorem dX12_fact_33 : decode cX12_fact 33 = .ok (.ireturn, 1) := by decide +kernel
theorem dX12_fact_34 : decode cX12_fact 34 = .ok (.aload_n 0, 1) := by decide +kernel
theorem dX12_fact_35 : decode cX12_fact 35 = .ok (.invokevirtual 108, 3) := by decide +kernel
theorem dX12_fact_38 : decode cX12_fact 38 = .ok (.iconst 1, 1) := by decide +kernel
theorem dX12_fact_39 : decode cX12_fact 39 = .ok (.istore_n 1, 1) := by decide +kernel
theorem dX12_fact_40 : decode cX12_fact 40 = .ok (.goto 32, 3) := by decide +kernel
theorem dX12_fact_43 : decode cX12_fact 43 = .ok (.iload_n 2, 1) := by decide +kernel
theorem dX12_fact_44 : decode cX12_fact 44 = .ok (.bipush 91, 2) := by decide +kernel
theorem dX12_fact_46 : decode cX12_fact 46 = .ok (.if_icmp .ne 26, 3) := by decide +kernel
theorem dX12_fact_49 : decode cX12_fact 49 = .ok (.aload_n 0, 1) := by decide +kernel
theorem dX12_fact_50 : decode cX12_fact 50 = .ok (.bipush 91, 2) := by decide +kernel
theorem dX12_fact_52 : decode cX12_fact 52 = .ok (.invokevirtual 189, 3) := by decide +kernel
theorem dX12_fact_55 : decode cX12_fact 55 = .ok (.ifCond .ne 5, 3) := by decide +kernel
theorem dX12_fact_58 : decode cX12_fact 58 = .ok (.iconst 0, 1) := by decide +kernel
theorem dX12_fact_59 : decode cX12_fact 59 = .ok (.ireturn, 1) := by decide +kernel
theorem dX12_fact_60 : decode cX12_fact 60 = .ok (.aload_n 0, 1) := by decide +kernel
theorem dX12_fact_61 : decode cX12_fact 61 = .ok (.dup, 1) := by decide +kernel
theorem dX12_fact_62 : decode cX12_fact 62 = .ok (.getfield 93, 3) := by decide +kernel
theorem dX12_fact_65 : decode cX12_fact 65 = .ok (.iconst 1, 1) := by decide +kernel
theorem dX12_fact_66 : decode cX12_fact 66 = .ok (.iadd, 1) := by decide +kernel
theorem dX12_fact_67 : decode cX12_fact 67 = .ok (.putfield 93, 3) := by decide +kernel
theorem dX12_fact_70 : decode cX12_fact 70 = .ok (.iconst 1, 1) := by decide +kernel
theorem dX12_fact_71 : decode cX12_fact 71 = .ok (.istore_n 1, 1) := by decide +kernel
theorem dX12_fact_72 : decode cX12_fact 72 = .ok (.goto (-70), 3) := by decide +kernel
theorem dX12_fact_75 : decode cX12_fact 75 = .ok (.aload_n 0, 1) := by decide +kernel
theorem dX12_fact_76 : decode cX12_fact 76 = .ok (.invokevirtual 192, 3) := by decide +kernel
theorem dX12_fact_79 : decode cX12_fact 79 = .ok (.ireturn, 1) := by decide +kernel
theorem dX12_opens_0 : decode cX12_opens 0 = .ok (.aload_n 0, 1) := by decide +kernel
theorem dX12_opens_1 : decode cX12_opens 1 = .ok (.getfield 153, 3) := by decide +kernel
theorem dX12_opens_4 : decode cX12_opens 4 = .ok (.bipush 10, 2) := by decide +kernel
theorem dX12_opens_6 : decode cX12_opens 6 = .ok (.if_icmp .ne 13, 3) := by decide +kernel
theorem dX12_opens_9 : decode cX12_opens 9 = .ok (.aload_n 0, 1) := by decide +kernel
theorem dX12_opens_10 : decode cX12_opens 10 = .ok (.iconst 2, 1) := by decide +kernel
theorem dX12_opens_11 : decode cX12_opens 11 = .ok (.aload_n 0, 1) := by decide +kernel
theorem dX12_opens_12 : decode cX12_opens 12 = .ok (.getfield 93, 3) := by decide +kernel
theorem dX12_opens_15 : decode cX12_opens 15 = .ok (.invokevirtual 114, 3) := by decide +kernel
theorem dX12_opens_18 : decode cX12_opens 18 = .ok (.ireturn, 1) := by decide +kernel
theorem dX12_opens_19 : decode cX12_opens 19 = .ok (.aload_n 0, 1) := by decide +kernel
theorem dX12_opens_20 : decode cX12_opens 20 = .ok (.dup, 1) := by decide +kernel
theorem dX12_opens_21 : decode cX12_opens 21 = .ok (.getfield 153, 3) := by decide +kernel
theorem dX12_opens_24 : decode cX12_opens 24 = .ok (.iconst 1, 1) := by decide +kernel
theorem dX12_opens_25 : decode cX12_opens 25 = .ok (.iadd, 1) := by decide +kernel
theorem dX12_opens_26 : decode cX12_opens 26 = .ok (.putfield 153, 3) := by decide +kernel
theorem dX12_opens_29 : decode cX12_opens 29 = .ok (.aload_n 0, 1) := by decide +kernel
theorem dX12_opens_30 : decode cX12_opens 30 = .ok (.getfield 29, 3) := by decide +kernel
theorem dX12_opens_33 : decode cX12_opens 33 = .ok (.aload_n 0, 1) := by decide +kernel
theorem dX12_opens_34 : decode cX12_opens 34 = .ok (.getfield 156, 3) := by decide +kernel
theorem dX12_opens_37 : decode cX12_opens 37 = .ok (.iload_n 1, 1) := by decide +kernel
theorem dX12_opens_38 : decode cX12_opens 38 = .ok (.iastore, 1) := by decide +kernel
theorem dX12_opens_39 : decode cX12_opens 39 = .ok (.aload_n 0, 1) := by decide +kernel
theorem dX12_opens_40 : decode cX12_opens 40 = .ok (.dup, 1) := by decide +kernel
theorem dX12_opens_41 : decode cX12_opens 41 = .ok (.getfield 156, 3) := by decide +kernel
theorem dX12_opens_44 : decode cX12_opens 44 = .ok (.iconst 1, 1) := by decide +kernel
theorem dX12_opens_45 : decode cX12_opens 45 = .ok (.iadd, 1) := by decide +kernel
theorem dX12_opens_46 : decode cX12_opens 46 = .ok (.putfield 156, 3) := by decide +kernel
theorem dX12_opens_49 : decode cX12_opens 49 = .ok (.iconst 1, 1) := by decide +kernel
theorem dX12_opens_50 : decode cX12_opens 50 = .ok (.ireturn, 1) := by decide +kernel
theorem li_62 : (62 : Int32).toInt = 62 := by decide
theorem li_93 : (93 : Int32).toInt = 93 := by decide
set_option maxHeartbeats 4000000 in
set_option maxRecDepth 100000 in
theorem t_X12_closes (l : Launch) (dC : Nat → ClassId) (dI : Nat → Nat → Nat) (tys : List (ClassId × FieldType)) (κ : tK) (B : Nat) (ws : va_W) (hT : Ty κ tys B ws) (a0 : Nat) (k_a0 : κ a0 = some 12) (f0 : Int32) (l_f0 : 0 ≤ f0.toInt) (h_f0 : f0.toInt ≤ 400) (f_a0_X12_16 : fld ws a0 12 16 (.int f0)) (f1 : Int32) (l_f1 : 0 ≤ f1.toInt) (h_f1 : f1.toInt ≤ 10) (f_a0_X12_13 : fld ws a0 12 13 (.int f1)) (f2 : Int32) (l_f2 : 0 ≤ f2.toInt) (h_f2 : f2.toInt ≤ 5) (f_a0_X12_11 : fld ws a0 12 11 (.int f2)) (f3 : Int32) (l_f3 : 0 ≤ f3.toInt) (h_f3 : f3.toInt ≤ 401) (f_a0_X12_8 : fld ws a0 12 8 (.int f3)) {o : Nat → Int32} (hOS : OS κ ws a0 o f0.toInt f1.toInt) {pb pe b h φ nc : Int} (hPS : PS κ ws a0 f2.toInt.toNat pb pe b h φ nc) (hh : h = f0.toInt - f1.toInt + 1) (hφ : φ + f0.toInt ≤ 399) (sz : Nat) : Met l yX12_closes (ws_u yX12_closes cX12_closes 1 none) ({ frames := 2, cells := 0, slots := 0, locals := 43 }) (va_Pc [.ref a0] (cPre (dC, dI) tys ws sz)) (va_Qv (fun (w : va_W) => Ty κ tys B w ∧ Sm [(12, 8), (12, 13), (12, 16)] [55, 56] κ ws w ∧ (∃ (xo : Int32) (xd : Int32), 0 ≤ xo.toInt ∧ xo.toInt ≤ 400 ∧ 0 ≤ xd.toInt ∧ xd.toInt ≤ 10 ∧ fld w a0 12 16 (.int xo) ∧ fld w a0 12 13 (.int xd) ∧ (xo.toInt ≤ f0.toInt ∧ xo.toInt - xd.toInt ≤ f0.toInt - f1.toInt) ∧ OS κ w a0 o xo.toInt xd.toInt ∧ PS κ w a0 f2.toInt.toNat pb pe b (xo.toInt - xd.toInt + 1) (φ + f0.toInt - xo.toInt) nc)) (fun w t => cPost (dC, dI) tys w (va_A ws sz) t) (va_A ws sz)) 0 0 (va_A ws sz) := by
  refine Met.ofW (cc := cX12_closes) (maxL := 1) (ret := none) (by decide) rfl ?_
  intro p e s m args below meth c s₁ B0 hml hv
  obtain ⟨rfl, hsz, hP, hK, hD0, hE⟩ := hv
  have hx := B0.exec
  have hb := B0.bytes
  have hr := B0.returns
  have hts0 := atoms_spec (ws := ws_u yX12_closes cX12_closes 1 none) B0.pre
  have hts : ∀ w ∈ gT, w.before _ s = true := fun w h => hts0 w (List.mem_cons_of_mem _ h)
  have hown : s.vm.findClass RX12 = some m.cls := findClass_of_methodNamed B0.named
  have hlocks := B0.notSynchronized
  subst hsz
  have hD := hD0.self (sz := s.heap.size)
  generalize hAe : va_A ws s.heap.size = A at hD ⊢
  have hA : ∀ q : Nat, s.heap.size ≤ q → A q := fun q h => by rw [← hAe]; exact Or.inr h
  have hw : tW (dC, dI) tys κ B A s ws s.heap [] := ⟨hK, hP, hD, va_S.rf, hT⟩
  have hM : Sm [(12, 8), (12, 13), (12, 16)] [55, 56] κ ws ws := Sm.rf
  clear hP hK hD hD0 hts0
  have hl := lv_entry ([.ref a0]) (n := 1) (Nat.le_of_ble_eq_true rfl)
  rw [lg_entry_eq]
  generalize (lg_sl ([.ref a0]) ++ List.replicate (1 - (lg_sl ([.ref a0])).length) Slot.unset).toArray = ls at hl ⊢
  have hl : lv_has ls 1 [(0, .ref a0)] := hl
  refine t_start (fun QQ hQ => ?_)
  refine lv_aload_n hx hb dX12_closes_0 rfl (lv_at hl 0 rfl) ?_
  refine lv_iconst (v := 3) hx hb dX12_closes_1 (by decide) ?_
  refine t_callv (va_runV (As := [.int 3]) (rest := []) ⟨hx, hb, hml, hown, hts⟩ (t_X12_settles l dC dI tys κ B ws hw.2.2.2.2 a0 k_a0 3 (by decide) (by decide) f0 (by omega) (by omega) f_a0_X12_16 f1 (by omega) (by omega) f_a0_X12_13 f2 (by omega) (by omega) f_a0_X12_11 hOS hPS (by omega) (by omega) s.heap.size) (cwV 1 hts (gUV tw_1407 tw_1409 ts_5_1 tw_13 tw_1410) rfl rfl rfl (by decide +kernel) ⟨(Nat.le_of_ble_eq_true rfl), (Nat.le_of_ble_eq_true rfl)⟩) ⟨cPre.blind, t_recv hw (ci := 12) k_a0 rfl rfl, cPre.use hw.2.1 hw.1 hw.2.2.1 hE⟩ rfl rfl hl.1 rfl (lv_room (Nat.le_of_ble_eq_true rfl)) dX12_closes_2 ⟨(Nat.le_of_ble_eq_true rfl), (Nat.le_of_ble_eq_true rfl)⟩) hw hA (fun _ h => h.1) (fun w_1 H locs hp hw => ?_)
  obtain ⟨_, hm, ⟨v2o, v2d, l_v2o, h_v2o, l_v2d, h_v2d, f_a0_X12_16, f_a0_X12_13, y_v2, ⟨hOS, hPS, hIn_v2, hTp_v2⟩⟩⟩ := hp
  have zc_3 := li_3
  have hM := hM.trans hm (by decide) (by decide)
  have f_a0_X12_11 := hm.1 _ _ _ _ f_a0_X12_11 (by decide)
  have f_a0_X12_8 := hm.1 _ _ _ _ f_a0_X12_8 (by decide)
  have hRT := hPS.rt
  have J5 : ∀ (n : Nat) (H : Heap) (locs : List Loc) (ls : Array Slot), (∃ (w5 : va_W) (p5_m_a0_X12_13 : Int32) (p5_m_a0_X12_16 : Int32) (p5_m_a0_X12_8 : Int32), tW (dC, dI) tys κ B A s w5 H locs ∧ Sm [(12, 8), (12, 13), (12, 16)] [55, 56] κ ws w5 ∧ 0 ≤ p5_m_a0_X12_13.toInt ∧ p5_m_a0_X12_13.toInt ≤ 10 ∧ 0 ≤ p5_m_a0_X12_16.toInt ∧ p5_m_a0_X12_16.toInt ≤ 400 ∧ 0 ≤ p5_m_a0_X12_8.toInt ∧ p5_m_a0_X12_8.toInt ≤ 401 ∧ fld w5 a0 12 11 (.int f2) ∧ fld w5 a0 12 13 (.int p5_m_a0_X12_13) ∧ fld w5 a0 12 16 (.int p5_m_a0_X12_16) ∧ fld w5 a0 12 8 (.int p5_m_a0_X12_8) ∧ p5_m_a0_X12_16.toInt ≤ f0.toInt ∧ p5_m_a0_X12_16.toInt - p5_m_a0_X12_13.toInt ≤ f0.toInt - f1.toInt ∧ OS κ w5 a0 o p5_m_a0_X12_16.toInt p5_m_a0_X12_13.toInt ∧ PS κ w5 a0 f2.toInt.toNat pb pe b (p5_m_a0_X12_16.toInt - p5_m_a0_X12_13.toInt + 1) (φ + f0.toInt - p5_m_a0_X12_16.toInt) nc ∧ lv_has ls 1 [(0, .ref a0)] ∧ (401 - p5_m_a0_X12_8.toInt).toNat = n) → W p l e (headSpec (ws_u yX12_closes cX12_closes 1 none) ({ frames := 2, cells := 0, slots := 0, locals := 43 })).room s m ([.ref a0] : List Value).toArray below meth c H locs 0 0 QQ (F0 m 5 ls []) := by
    refine loopT _ ?_
    intro n_5 H locs ls hI ih_5
    obtain ⟨w5, p5_m_a0_X12_13, p5_m_a0_X12_16, p5_m_a0_X12_8, hw, hM, l_p5_m_a0_X12_13, h_p5_m_a0_X12_13, l_p5_m_a0_X12_16, h_p5_m_a0_X12_16, l_p5_m_a0_X12_8, h_p5_m_a0_X12_8, f_a0_X12_11, f_a0_X12_13, f_a0_X12_16, f_a0_X12_8, li_5_0, li_5_1, hOS, hPS, hl, hn_5⟩ := hI
    refine lv_aload_n hx hb dX12_closes_5 rfl (lv_at hl 0 rfl) ?_
    obtain ⟨u_v6q1, q_v6q1, f_a0_X12_1⟩ := t_peek (k := 1) hw.2.2.2.2 k_a0 rfl (by decide)
    obtain ⟨v6q1, rfl, l_v6q1, h_v6q1⟩ := q_v6q1.geti (lo := 0) (hi := 400) rfl
    refine t_calli (va_runV (As := []) (rest := []) ⟨hx, hb, hml, hown, hts⟩ (t_X12_see l dC dI tys κ B w5 hw.2.2.2.2 a0 k_a0 p5_m_a0_X12_8 (by omega) (by omega) f_a0_X12_8 v6q1 (by omega) (by omega) f_a0_X12_1 H.size) (cwV 0 hts (gUV tw_1264 tw_1266 ts_3_3 tw_13 tw_1267) rfl rfl rfl (by decide +kernel) ⟨(Nat.le_of_ble_eq_true rfl), (Nat.le_of_ble_eq_true rfl)⟩) ⟨cPre.blind, t_recv hw (ci := 12) k_a0 rfl rfl, cPre.use hw.2.1 hw.1 hw.2.2.1 hE⟩ rfl rfl hl.1 rfl (lv_room (Nat.le_of_ble_eq_true rfl)) dX12_closes_6 ⟨(Nat.le_of_ble_eq_true rfl), (Nat.le_of_ble_eq_true rfl)⟩) hw hA (fun _ _ h => h.2.2.1) (fun v6 w_2 H locs hp hw => ?_)
    obtain ⟨l_v6, h_v6, _, hm, ⟨v6n, l_v6n, h_v6n, f_a0_X12_8, y_v6⟩⟩ := hp
    have hM := hM.trans hm (by decide) (by decide)
    have f_a0_X12_11 := hm.1 _ _ _ _ f_a0_X12_11 (by decide)
    have f_a0_X12_13 := hm.1 _ _ _ _ f_a0_X12_13 (by decide)
    have f_a0_X12_16 := hm.1 _ _ _ _ f_a0_X12_16 (by decide)
    have f_a0_X12_1 := hm.1 _ _ _ _ f_a0_X12_1 (by decide)
    have hPS := hPS.sm hm (by decide) (by decide)
    have hOS := hOS.sm hm (by decide) (by decide)
    refine lv_bipush (v := 93) hx hb dX12_closes_9 (by decide) ?_
    refine lv_icmp_ne (tgt := 64) hx hb dX12_closes_11 (by decide) (fun c_11 => ?_) (fun c_11 => ?_)
    · simp only [fa_lt, fa_le, fa_eq, li_93] at c_11
      rw [hQ]
      refine W.widen (k := 0) (n := 0) (Nat.le_refl _) (Nat.le_refl _) ?_
      exact W.vret hx hb hr (fun t ht hW => ⟨⟨w_2, rfl, ⟨hw.2.2.2.2, hM, ⟨p5_m_a0_X12_16, p5_m_a0_X12_13, (by omega), (by omega), (by omega), (by omega), f_a0_X12_16, f_a0_X12_13, (by omega), ⟨hOS, hPS⟩⟩⟩, by rw [ht]; exact hw.2.1, va_K.moved hW.alike hw.1, hw.2.2.1⟩, hw.2.2.2.1.F ht⟩) hw.2.2.2.1.2.2 dX12_closes_64
    · simp only [fa_lt, fa_le, fa_eq, li_93] at c_11
      refine lv_aload_n hx hb dX12_closes_14 rfl (lv_at hl 0 rfl) ?_
      refine t_calli (va_runV (As := []) (rest := []) ⟨hx, hb, hml, hown, hts⟩ (t_X12_isInside l dC dI tys κ B w_2 hw.2.2.2.2 a0 k_a0 p5_m_a0_X12_16 (by omega) (by omega) f_a0_X12_16 hOS H.size) (cwV 0 hts (gUV tw_1414 tw_1416 ts_5_2 tw_13 tw_1417) rfl rfl rfl (by decide +kernel) ⟨(Nat.le_of_ble_eq_true rfl), (Nat.le_of_ble_eq_true rfl)⟩) ⟨cPre.blind, t_recv hw (ci := 12) k_a0 rfl rfl, cPre.use hw.2.1 hw.1 hw.2.2.1 hE⟩ rfl rfl hl.1 rfl (lv_room (Nat.le_of_ble_eq_true rfl)) dX12_closes_15 ⟨(Nat.le_of_ble_eq_true rfl), (Nat.le_of_ble_eq_true rfl)⟩) hw hA (fun _ _ h => h.2.2.1) (fun v15 w_3 H locs hp hw => ?_)
      obtain ⟨l_v15, h_v15, _, hm, g_v15⟩ := hp
      have hM := hM.trans hm (by decide) (by decide)
      have f_a0_X12_11 := hm.1 _ _ _ _ f_a0_X12_11 (by decide)
      have f_a0_X12_13 := hm.1 _ _ _ _ f_a0_X12_13 (by decide)
      have f_a0_X12_16 := hm.1 _ _ _ _ f_a0_X12_16 (by decide)
      have f_a0_X12_1 := hm.1 _ _ _ _ f_a0_X12_1 (by decide)
      have f_a0_X12_8 := hm.1 _ _ _ _ f_a0_X12_8 (by decide)
      have hPS := hPS.sm hm (by decide) (by decide)
      have hOS := hOS.sm hm (by decide) (by decide)
      refine lv_if_eq (tgt := 64) hx hb dX12_closes_18 (by decide) (fun c_18 => ?_) (fun c_18 => ?_)
      · simp only [fa_lt, fa_le, fa_eq, li_0] at c_18
        have hno := g_v15.1 c_18
        rw [hQ]
        refine W.widen (k := 0) (n := 0) (Nat.le_refl _) (Nat.le_refl _) ?_
        exact W.vret hx hb hr (fun t ht hW => ⟨⟨w_3, rfl, ⟨hw.2.2.2.2, hM, ⟨p5_m_a0_X12_16, p5_m_a0_X12_13, (by omega), (by omega), (by omega), (by omega), f_a0_X12_16, f_a0_X12_13, (by omega), ⟨hOS, hPS⟩⟩⟩, by rw [ht]; exact hw.2.1, va_K.moved hW.alike hw.1, hw.2.2.1⟩, hw.2.2.2.1.F ht⟩) hw.2.2.2.1.2.2 dX12_closes_64
      · simp only [fa_lt, fa_le, fa_eq, li_0] at c_18
        obtain ⟨k9, hk9, hk91⟩ := g_v15.2 c_18
        refine lv_aload_n hx hb dX12_closes_21 rfl (lv_at hl 0 rfl) ?_
        refine lv_iconst (v := 1) hx hb dX12_closes_22 (by decide) ?_
        refine t_callv (va_runV (As := [.int 1]) (rest := []) ⟨hx, hb, hml, hown, hts⟩ (t_X12_settles l dC dI tys κ B w_3 hw.2.2.2.2 a0 k_a0 1 (by decide) (by decide) p5_m_a0_X12_16 (by omega) (by omega) f_a0_X12_16 p5_m_a0_X12_13 (by omega) (by omega) f_a0_X12_13 f2 (by omega) (by omega) f_a0_X12_11 hOS hPS (by omega) (by omega) H.size) (cwV 1 hts (gUV tw_1407 tw_1409 ts_5_1 tw_13 tw_1410) rfl rfl rfl (by decide +kernel) ⟨(Nat.le_of_ble_eq_true rfl), (Nat.le_of_ble_eq_true rfl)⟩) ⟨cPre.blind, t_recv hw (ci := 12) k_a0 rfl rfl, cPre.use hw.2.1 hw.1 hw.2.2.1 hE⟩ rfl rfl hl.1 rfl (lv_room (Nat.le_of_ble_eq_true rfl)) dX12_closes_23 ⟨(Nat.le_of_ble_eq_true rfl), (Nat.le_of_ble_eq_true rfl)⟩) hw hA (fun _ h => h.1) (fun w_4 H locs hp hw => ?_)
        obtain ⟨_, hm, ⟨v23o, v23d, l_v23o, h_v23o, l_v23d, h_v23d, f_a0_X12_16, f_a0_X12_13, y_v23, ⟨hOS, hPS, hIn_v23, hTp_v23⟩⟩⟩ := hp
        have zc_1 := li_1
        have hM := hM.trans hm (by decide) (by decide)
        have f_a0_X12_11 := hm.1 _ _ _ _ f_a0_X12_11 (by decide)
        have f_a0_X12_1 := hm.1 _ _ _ _ f_a0_X12_1 (by decide)
        have f_a0_X12_8 := hm.1 _ _ _ _ f_a0_X12_8 (by decide)
        have hRT := hPS.rt
        have hk9l := hIn_v23 k9 hk9 hk91
        have hpn := hOS.popn (by omega)
        refine lv_aload_n hx hb dX12_closes_26 rfl (lv_at hl 0 rfl) ?_
        refine lv_dup hx hb dX12_closes_27 rfl ?_
        refine t_getk (ci := 12) (C := RX12) (T := TX12) (N := 38) hx hb hts iX12 hown hw rfl 16 (by decide) (hts _ tw_1141) (fun _ h9 => h9) dX12_closes_28 f_a0_X12_16 ?_
        refine lv_iconst (v := 1) hx hb dX12_closes_31 (by decide) ?_
        refine lv_isub hx hb dX12_closes_32 ?_
        refine lv_topi (fun v32 e_v32 => ?_)
        have e_v32 : v32.toInt = v23o.toInt - 1 := sb_i e_v32 rfl li_1 (by omega) (by omega)
        refine t_put (ci := 12) (C := RX12) (T := TX12) (N := 38) (v := .int v32) hx hb hts iX12 tyX12 tyX12_ok nmX12 hown hw k_a0 rfl rfl rfl 16 (by decide) (hts _ tw_1141) (fun _ h9 => h9) rfl (tyX12_ok 16 (by decide)) rfl rfl (okV.int rfl (by omega) (by omega)) dX12_closes_33 (fun w_5 H locs hw u => ?_)
        have hM := hM.up1 u (by decide)
        have f_a0_X12_11 := u.1 _ _ _ _ f_a0_X12_11 (Or.inr (Or.inr (by decide)))
        have f_a0_X12_1 := u.1 _ _ _ _ f_a0_X12_1 (Or.inr (Or.inr (by decide)))
        have f_a0_X12_8 := u.1 _ _ _ _ f_a0_X12_8 (Or.inr (Or.inr (by decide)))
        have f_a0_X12_16 := u.2.2
        have f_a0_X12_13 := u.1 _ _ _ _ f_a0_X12_13 (Or.inr (Or.inr (by decide)))
        have hPS := hPS.sm (Sm.of1 u) (by decide) (by decide)
        have hOS := hOS.sm (Sm.of1 u) (by decide) (by decide)
        refine lv_aload_n hx hb dX12_closes_36 rfl (lv_at hl 0 rfl) ?_
        refine lv_dup hx hb dX12_closes_37 rfl ?_
        refine t_getk (ci := 12) (C := RX12) (T := TX12) (N := 38) hx hb hts iX12 hown hw rfl 13 (by decide) (hts _ tw_1138) (fun _ h9 => h9) dX12_closes_38 f_a0_X12_13 ?_
        refine lv_iconst (v := 1) hx hb dX12_closes_41 (by decide) ?_
        refine lv_isub hx hb dX12_closes_42 ?_
        refine lv_topi (fun v42 e_v42 => ?_)
        have e_v42 : v42.toInt = v23d.toInt - 1 := sb_i e_v42 rfl li_1 (by omega) (by omega)
        refine t_put (ci := 12) (C := RX12) (T := TX12) (N := 38) (v := .int v42) hx hb hts iX12 tyX12 tyX12_ok nmX12 hown hw k_a0 rfl rfl rfl 13 (by decide) (hts _ tw_1138) (fun _ h9 => h9) rfl (tyX12_ok 13 (by decide)) rfl rfl (okV.int rfl (by omega) (by omega)) dX12_closes_43 (fun w_6 H locs hw u => ?_)
        have hM := hM.up1 u (by decide)
        have f_a0_X12_11 := u.1 _ _ _ _ f_a0_X12_11 (Or.inr (Or.inr (by decide)))
        have f_a0_X12_1 := u.1 _ _ _ _ f_a0_X12_1 (Or.inr (Or.inr (by decide)))
        have f_a0_X12_8 := u.1 _ _ _ _ f_a0_X12_8 (Or.inr (Or.inr (by decide)))
        have f_a0_X12_16 := u.1 _ _ _ _ f_a0_X12_16 (Or.inr (Or.inr (by decide)))
        have f_a0_X12_13 := u.2.2
        have hPS := hPS.sm (Sm.of1 u) (by decide) (by decide)
        have hOS := hOS.sm (Sm.of1 u) (by decide) (by decide)
        have hOS := hOS.popx (op' := v32.toInt) (dp' := v42.toInt) (by omega) (by omega) (by omega)
        refine lv_aload_n hx hb dX12_closes_46 rfl (lv_at hl 0 rfl) ?_
        refine lv_dup hx hb dX12_closes_47 rfl ?_
        refine t_getk (ci := 12) (C := RX12) (T := TX12) (N := 38) hx hb hts iX12 hown hw rfl 8 (by decide) (hts _ tw_1133) (fun _ h9 => h9) dX12_closes_48 f_a0_X12_8 ?_
        refine lv_iconst (v := 1) hx hb dX12_closes_51 (by decide) ?_
        refine lv_iadd hx hb dX12_closes_52 ?_
        refine lv_topi (fun v52 e_v52 => ?_)
        have e_v52 : v52.toInt = v6n.toInt + 1 := ad_i e_v52 rfl li_1 (by omega) (by omega)
        refine t_put (ci := 12) (C := RX12) (T := TX12) (N := 38) (v := .int v52) hx hb hts iX12 tyX12 tyX12_ok nmX12 hown hw k_a0 rfl rfl rfl 8 (by decide) (hts _ tw_1133) (fun _ h9 => h9) rfl (tyX12_ok 8 (by decide)) rfl rfl (okV.int rfl (by omega) (by omega)) dX12_closes_53 (fun w_7 H locs hw u => ?_)
        have hM := hM.up1 u (by decide)
        have f_a0_X12_11 := u.1 _ _ _ _ f_a0_X12_11 (Or.inr (Or.inr (by decide)))
        have f_a0_X12_1 := u.1 _ _ _ _ f_a0_X12_1 (Or.inr (Or.inr (by decide)))
        have f_a0_X12_8 := u.2.2
        have f_a0_X12_16 := u.1 _ _ _ _ f_a0_X12_16 (Or.inr (Or.inr (by decide)))
        have f_a0_X12_13 := u.1 _ _ _ _ f_a0_X12_13 (Or.inr (Or.inr (by decide)))
        have hPS := hPS.sm (Sm.of1 u) (by decide) (by decide)
        have hOS := hOS.sm (Sm.of1 u) (by decide) (by decide)
        refine lv_aload_n hx hb dX12_closes_56 rfl (lv_at hl 0 rfl) ?_
        refine lv_iconst (v := 3) hx hb dX12_closes_57 (by decide) ?_
        refine t_callv (va_runV (As := [.int 3]) (rest := []) ⟨hx, hb, hml, hown, hts⟩ (t_X12_settles l dC dI tys κ B w_7 hw.2.2.2.2 a0 k_a0 3 (by decide) (by decide) v32 (by omega) (by omega) f_a0_X12_16 v42 (by omega) (by omega) f_a0_X12_13 f2 (by omega) (by omega) f_a0_X12_11 hOS hPS (by omega) (by omega) H.size) (cwV 1 hts (gUV tw_1407 tw_1409 ts_5_1 tw_13 tw_1410) rfl rfl rfl (by decide +kernel) ⟨(Nat.le_of_ble_eq_true rfl), (Nat.le_of_ble_eq_true rfl)⟩) ⟨cPre.blind, t_recv hw (ci := 12) k_a0 rfl rfl, cPre.use hw.2.1 hw.1 hw.2.2.1 hE⟩ rfl rfl hl.1 rfl (lv_room (Nat.le_of_ble_eq_true rfl)) dX12_closes_58 ⟨(Nat.le_of_ble_eq_true rfl), (Nat.le_of_ble_eq_true rfl)⟩) hw hA (fun _ h => h.1) (fun w_8 H locs hp hw => ?_)
        obtain ⟨_, hm, ⟨v58o, v58d, l_v58o, h_v58o, l_v58d, h_v58d, f_a0_X12_16, f_a0_X12_13, y_v58, ⟨hOS, hPS, hIn_v58, hTp_v58⟩⟩⟩ := hp
        have zc_3 := li_3
        have hM := hM.trans hm (by decide) (by decide)
        have f_a0_X12_11 := hm.1 _ _ _ _ f_a0_X12_11 (by decide)
        have f_a0_X12_1 := hm.1 _ _ _ _ f_a0_X12_1 (by decide)
        have f_a0_X12_8 := hm.1 _ _ _ _ f_a0_X12_8 (by decide)
        have hRT := hPS.rt
        refine lv_goto (tgt := 5) hx hb dX12_closes_61 (by decide) ?_
        exact ih_5 _ _ _ _ (by omega) ⟨w_8, v58d, v58o, v52, hw, hM, (by omega), (by omega), (by omega), (by omega), (by omega), (by omega), f_a0_X12_11, f_a0_X12_13, f_a0_X12_16, f_a0_X12_8, (by omega), (by omega), hOS, (hPS.to (by omega) (by omega)), (lv_sub hl [0] rfl), rfl⟩
  exact J5 _ _ _ _ ⟨w_1, v2d, v2o, f3, hw, hM, (by omega), (by omega), (by omega), (by omega), (by omega), (by omega), f_a0_X12_11, f_a0_X12_13, f_a0_X12_16, f_a0_X12_8, (by omega), (by omega), hOS, (hPS.to (by omega) (by omega)), (lv_sub hl [0] rfl), rfl⟩
set_option maxHeartbeats 4000000 in
set_option maxRecDepth 100000 in
theorem t_X12_compare (l : Launch) (dC : Nat → ClassId) (dI : Nat → Nat → Nat) (tys : List (ClassId × FieldType)) (κ : tK) (B : Nat) (ws : va_W) (hT : Ty κ tys B ws) (a0 : Nat) (k_a0 : κ a0 = some 12) (f0 : Int32) (l_f0 : 0 ≤ f0.toInt) (h_f0 : f0.toInt ≤ 60) (f_a0_X12_12 : fld ws a0 12 12 (.int f0)) (f1 : Int32) (l_f1 : 0 ≤ f1.toInt) (h_f1 : f1.toInt ≤ 5) (f_a0_X12_11 : fld ws a0 12 11 (.int f1)) {pb pe b h φ nc : Int} (hPS : PS κ ws a0 f1.toInt.toNat pb pe b h φ nc) (hφ : φ ≤ 2 * f0.toInt + 250) (h0 : 0 ≤ h) (hh : h ≤ f0.toInt) (sz : Nat) : Met l yX12_compare (ws_u yX12_compare cX12_compare 5 (some .boolean)) ({ frames := 6, cells := 0, slots := 0, locals := 130 }) (va_Pc [.ref a0] (cPre (dC, dI) tys ws sz)) (va_Qi (fun (r : Int32) (w : va_W) => 0 ≤ r.toInt ∧ r.toInt ≤ 1 ∧ Ty κ tys B w ∧ Sm [(12, 8), (12, 9), (12, 10), (12, 12)] [55, 56] κ ws w ∧ (∃ (xm : Int32), 0 ≤ xm.toInt ∧ xm.toInt ≤ 60 ∧ fld w a0 12 12 (.int xm) ∧ (r.toInt = 0 ∨ f0.toInt + 3 ≤ xm.toInt) ∧ Alt r (RT κ w a0) (PS κ w a0 f1.toInt.toNat pb pe b (h + 1) (φ + 2 * (xm.toInt - f0.toInt) - 3) nc))) (fun w t => cPost (dC, dI) tys w (va_A ws sz) t) (va_A ws sz)) 0 0 (va_A ws sz) := by
  refine Met.ofW (cc := cX12_compare) (maxL := 5) (ret := (some .boolean)) (by decide) rfl ?_
  intro p e s m args below meth c s₁ B0 hml hv
  obtain ⟨rfl, hsz, hP, hK, hD0, hE⟩ := hv
  have hx := B0.exec
  have hb := B0.bytes
  have hr := B0.returns
  have hts0 := atoms_spec (ws := ws_u yX12_compare cX12_compare 5 (some .boolean)) B0.pre
  have hts : ∀ w ∈ gT, w.before _ s = true := fun w h => hts0 w (List.mem_cons_of_mem _ h)
  have hown : s.vm.findClass RX12 = some m.cls := findClass_of_methodNamed B0.named
  have hlocks := B0.notSynchronized
  subst hsz
  have hD := hD0.self (sz := s.heap.size)
  generalize hAe : va_A ws s.heap.size = A at hD ⊢
  have hA : ∀ q : Nat, s.heap.size ≤ q → A q := fun q h => by rw [← hAe]; exact Or.inr h
  have hw : tW (dC, dI) tys κ B A s ws s.heap [] := ⟨hK, hP, hD, va_S.rf, hT⟩
  have hM : Sm [(12, 8), (12, 9), (12, 10), (12, 12)] [55, 56] κ ws ws := Sm.rf
  clear hP hK hD hD0 hts0
  have hl := lv_entry ([.ref a0]) (n := 5) (Nat.le_of_ble_eq_true rfl)
  rw [lg_entry_eq]
  generalize (lg_sl ([.ref a0]) ++ List.replicate (5 - (lg_sl ([.ref a0])).length) Slot.unset).toArray = ls at hl ⊢
  have hl : lv_has ls 5 [(0, .ref a0)] := hl
  refine t_start (fun QQ hQ => ?_)
  have hRT := hPS.rt
  refine lv_aload_n hx hb dX12_compare_0 rfl (lv_at hl 0 rfl) ?_
  refine t_calli (va_runV (As := []) (rest := []) ⟨hx, hb, hml, hown, hts⟩ (t_X12_sum l dC dI tys κ B ws hw.2.2.2.2 a0 k_a0 f0 (by omega) (by omega) f_a0_X12_12 f1 (by omega) (by omega) f_a0_X12_11 hPS (by omega) (by omega) (by omega) s.heap.size) (cwV 0 hts (gUV tw_1347 tw_1349 ts_4_5 tw_13 tw_1350) rfl rfl rfl (by decide +kernel) ⟨(Nat.le_of_ble_eq_true rfl), (Nat.le_of_ble_eq_true rfl)⟩) ⟨cPre.blind, t_recv hw (ci := 12) k_a0 rfl rfl, cPre.use hw.2.1 hw.1 hw.2.2.1 hE⟩ rfl rfl hl.1 rfl (lv_room (Nat.le_of_ble_eq_true rfl)) dX12_compare_1 ⟨(Nat.le_of_ble_eq_true rfl), (Nat.le_of_ble_eq_true rfl)⟩) hw hA (fun _ _ h => h.2.2.1) (fun v1 w_1 H locs hp hw => ?_)
  obtain ⟨l_v1, h_v1, _, hm, ⟨v1m, l_v1m, h_v1m, f_a0_X12_12, y_v1, g_v1⟩⟩ := hp
  have hM := hM.trans hm (by decide) (by decide)
  have f_a0_X12_11 := hm.1 _ _ _ _ f_a0_X12_11 (by decide)
  refine lv_if_ne (tgt := 9) hx hb dX12_compare_4 (by decide) (fun c_4 => ?_) (fun c_4 => ?_)
  · simp only [fa_lt, fa_le, fa_eq, li_0] at c_4
    have hPS := g_v1.2 c_4
    have hRT := hPS.rt
    refine lv_aload_n hx hb dX12_compare_9 rfl (lv_at hl 0 rfl) ?_
    obtain ⟨u_v10q0, q_v10q0, f_a0_X12_8⟩ := t_peek (k := 8) hw.2.2.2.2 k_a0 rfl (by decide)
    obtain ⟨v10q0, rfl, l_v10q0, h_v10q0⟩ := q_v10q0.geti (lo := 0) (hi := 401) rfl
    obtain ⟨u_v10q1, q_v10q1, f_a0_X12_1⟩ := t_peek (k := 1) hw.2.2.2.2 k_a0 rfl (by decide)
    obtain ⟨v10q1, rfl, l_v10q1, h_v10q1⟩ := q_v10q1.geti (lo := 0) (hi := 400) rfl
    refine t_calli (va_runV (As := []) (rest := []) ⟨hx, hb, hml, hown, hts⟩ (t_X12_see l dC dI tys κ B w_1 hw.2.2.2.2 a0 k_a0 v10q0 (by omega) (by omega) f_a0_X12_8 v10q1 (by omega) (by omega) f_a0_X12_1 H.size) (cwV 0 hts (gUV tw_1264 tw_1266 ts_3_3 tw_13 tw_1267) rfl rfl rfl (by decide +kernel) ⟨(Nat.le_of_ble_eq_true rfl), (Nat.le_of_ble_eq_true rfl)⟩) ⟨cPre.blind, t_recv hw (ci := 12) k_a0 rfl rfl, cPre.use hw.2.1 hw.1 hw.2.2.1 hE⟩ rfl rfl hl.1 rfl (lv_room (Nat.le_of_ble_eq_true rfl)) dX12_compare_10 ⟨(Nat.le_of_ble_eq_true rfl), (Nat.le_of_ble_eq_true rfl)⟩) hw hA (fun _ _ h => h.2.2.1) (fun v10 w_2 H locs hp hw => ?_)
    obtain ⟨l_v10, h_v10, _, hm, ⟨v10n, l_v10n, h_v10n, f_a0_X12_8, y_v10⟩⟩ := hp
    have hM := hM.trans hm (by decide) (by decide)
    have f_a0_X12_11 := hm.1 _ _ _ _ f_a0_X12_11 (by decide)
    have f_a0_X12_12 := hm.1 _ _ _ _ f_a0_X12_12 (by decide)
    have f_a0_X12_1 := hm.1 _ _ _ _ f_a0_X12_1 (by decide)
    have hPS := hPS.sm hm (by decide) (by decide)
    have hRT := hRT.sm hm (by decide) (by decide)
    refine lv_istore_n (lv' := [(1, .int v10), (0, .ref a0)]) hx hb dX12_compare_13 rfl hl (by decide) rfl (fun ls hl => ?_)
    refine lv_aload_n hx hb dX12_compare_14 rfl (lv_at hl 1 rfl) ?_
    refine t_getk (ci := 12) (C := RX12) (T := TX12) (N := 38) hx hb hts iX12 hown hw rfl 8 (by decide) (hts _ tw_1133) (fun _ h9 => h9) dX12_compare_15 f_a0_X12_8 ?_
    refine lv_istore_n (lv' := [(2, .int v10n), (1, .int v10), (0, .ref a0)]) hx hb dX12_compare_18 rfl hl (by decide) rfl (fun ls hl => ?_)
    refine lv_iload_n hx hb dX12_compare_19 rfl (lv_at hl 1 rfl) ?_
    refine lv_bipush (v := 60) hx hb dX12_compare_20 (by decide) ?_
    have J44 : ∀ (H : Heap) (locs : List Loc) (ls : Array Slot) (w44 : va_W), tW (dC, dI) tys κ B A s w44 H locs → Sm [(12, 8), (12, 9), (12, 10), (12, 12)] [55, 56] κ ws w44 → fld w44 a0 12 1 (.int v10q1) → fld w44 a0 12 11 (.int f1) → fld w44 a0 12 12 (.int v1m) → fld w44 a0 12 8 (.int v10n) → v10.toInt ≠ -1 → PS κ w44 a0 f1.toInt.toNat pb pe b (h + 1) (φ + 2 * (v1m.toInt - f0.toInt) - 1) nc → lv_has ls 5 [(0, .ref a0), (1, .int v10), (2, .int v10n)] → W p l e (headSpec (ws_u yX12_compare cX12_compare 5 (some .boolean)) ({ frames := 6, cells := 0, slots := 0, locals := 130 })).room s m ([.ref a0] : List Value).toArray below meth c H locs 0 0 QQ (F0 m 44 ls []) := by
      intro H locs ls w44 hw hM f_a0_X12_1 f_a0_X12_11 f_a0_X12_12 f_a0_X12_8 li_44_0 hPS hl
      have hRT := hPS.rt
      refine lv_aload_n hx hb dX12_compare_44 rfl (lv_at hl 0 rfl) ?_
      refine lv_dup hx hb dX12_compare_45 rfl ?_
      refine t_getk (ci := 12) (C := RX12) (T := TX12) (N := 38) hx hb hts iX12 hown hw rfl 8 (by decide) (hts _ tw_1133) (fun _ h9 => h9) dX12_compare_46 f_a0_X12_8 ?_
      refine lv_iconst (v := 1) hx hb dX12_compare_49 (by decide) ?_
      refine lv_iadd hx hb dX12_compare_50 ?_
      refine lv_topi (fun v50 e_v50 => ?_)
      have e_v50 : v50.toInt = v10n.toInt + 1 := ad_i e_v50 rfl li_1 (by omega) (by omega)
      refine t_put (ci := 12) (C := RX12) (T := TX12) (N := 38) (v := .int v50) hx hb hts iX12 tyX12 tyX12_ok nmX12 hown hw k_a0 rfl rfl rfl 8 (by decide) (hts _ tw_1133) (fun _ h9 => h9) rfl (tyX12_ok 8 (by decide)) rfl rfl (okV.int rfl (by omega) (by omega)) dX12_compare_51 (fun w_3 H locs hw u => ?_)
      have hM := hM.up1 u (by decide)
      have f_a0_X12_1 := u.1 _ _ _ _ f_a0_X12_1 (Or.inr (Or.inr (by decide)))
      have f_a0_X12_11 := u.1 _ _ _ _ f_a0_X12_11 (Or.inr (Or.inr (by decide)))
      have f_a0_X12_12 := u.1 _ _ _ _ f_a0_X12_12 (Or.inr (Or.inr (by decide)))
      have f_a0_X12_8 := u.2.2
      have hPS := hPS.sm (Sm.of1 u) (by decide) (by decide)
      have hRT := hRT.sm (Sm.of1 u) (by decide) (by decide)
      refine lv_iload_n hx hb dX12_compare_54 rfl (lv_at hl 1 rfl) ?_
      refine lv_bipush (v := 61) hx hb dX12_compare_55 (by decide) ?_
      refine lv_icmp_eq (tgt := 89) hx hb dX12_compare_57 (by decide) (fun c_57 => ?_) (fun c_57 => ?_)
      · simp only [fa_lt, fa_le, fa_eq, li_61] at c_57
        refine lv_iconst (v := 0) hx hb dX12_compare_89 (by decide) ?_
        refine lv_istore_n (lv' := [(3, .int 0), (0, .ref a0), (1, .int v10), (2, .int v10n)]) hx hb dX12_compare_90 rfl hl (by decide) rfl (fun ls hl => ?_)
        refine lv_iload_n hx hb dX12_compare_91 rfl (lv_at hl 0 rfl) ?_
        have J105 : ∀ (H : Heap) (locs : List Loc) (ls : Array Slot) (w105 : va_W) (p105_l3 : Int32) (p105_m_a0_X12_8 : Int32), tW (dC, dI) tys κ B A s w105 H locs → Sm [(12, 8), (12, 9), (12, 10), (12, 12)] [55, 56] κ ws w105 → 0 ≤ p105_l3.toInt → p105_l3.toInt ≤ 1 → 1 ≤ p105_m_a0_X12_8.toInt → p105_m_a0_X12_8.toInt ≤ 401 → fld w105 a0 12 1 (.int v10q1) → fld w105 a0 12 11 (.int f1) → fld w105 a0 12 12 (.int v1m) → fld w105 a0 12 8 (.int p105_m_a0_X12_8) → PS κ w105 a0 f1.toInt.toNat pb pe b (h + 1) (φ + 2 * (v1m.toInt - f0.toInt) - 1) nc → lv_has ls 5 [(0, .ref a0), (1, .int v10), (2, .int v10n), (3, .int p105_l3)] → W p l e (headSpec (ws_u yX12_compare cX12_compare 5 (some .boolean)) ({ frames := 6, cells := 0, slots := 0, locals := 130 })).room s m ([.ref a0] : List Value).toArray below meth c H locs 0 0 QQ (F0 m 105 ls []) := by
          intro H locs ls w105 p105_l3 p105_m_a0_X12_8 hw hM l_p105_l3 h_p105_l3 l_p105_m_a0_X12_8 h_p105_m_a0_X12_8 f_a0_X12_1 f_a0_X12_11 f_a0_X12_12 f_a0_X12_8 hPS hl
          have hRT := hPS.rt
          refine lv_aload_n hx hb dX12_compare_105 rfl (lv_at hl 0 rfl) ?_
          refine lv_iload_n hx hb dX12_compare_106 rfl (lv_at hl 2 rfl) ?_
          refine t_calli (va_runV (As := [.int v10n]) (rest := []) ⟨hx, hb, hml, hown, hts⟩ (t_X12_makes l dC dI tys κ B w105 hw.2.2.2.2 a0 k_a0 v10n (by omega) (by omega) v1m (by omega) (by omega) f_a0_X12_12 H.size) (cwV 1 hts (gUV tw_1360 tw_1362 ts_4_8 tw_13 tw_1363) rfl rfl rfl (by decide +kernel) ⟨(Nat.le_of_ble_eq_true rfl), (Nat.le_of_ble_eq_true rfl)⟩) ⟨cPre.blind, t_recv hw (ci := 12) k_a0 rfl rfl, cPre.use hw.2.1 hw.1 hw.2.2.1 hE⟩ rfl rfl hl.1 rfl (lv_room (Nat.le_of_ble_eq_true rfl)) dX12_compare_107 ⟨(Nat.le_of_ble_eq_true rfl), (Nat.le_of_ble_eq_true rfl)⟩) hw hA (fun _ _ h => h.2.2.1) (fun v107 w_4 H locs hp hw => ?_)
          obtain ⟨l_v107, h_v107, _, hm, ⟨v107m, l_v107m, h_v107m, f_a0_X12_12, y_v107⟩⟩ := hp
          have hM := hM.trans hm (by decide) (by decide)
          have f_a0_X12_1 := hm.1 _ _ _ _ f_a0_X12_1 (by decide)
          have f_a0_X12_11 := hm.1 _ _ _ _ f_a0_X12_11 (by decide)
          have f_a0_X12_8 := hm.1 _ _ _ _ f_a0_X12_8 (by decide)
          have hPS := hPS.sm hm (by decide) (by decide)
          have hRT := hRT.sm hm (by decide) (by decide)
          refine lv_if_ne (tgt := 115) hx hb dX12_compare_110 (by decide) (fun c_110 => ?_) (fun c_110 => ?_)
          · simp only [fa_lt, fa_le, fa_eq, li_0] at c_110
            refine lv_iload_n hx hb dX12_compare_115 rfl (lv_at hl 1 rfl) ?_
            refine lv_bipush (v := 60) hx hb dX12_compare_116 (by decide) ?_
            have J152 : ∀ (H : Heap) (locs : List Loc) (ls : Array Slot) (w152 : va_W) (p152_s0 : Int32), tW (dC, dI) tys κ B A s w152 H locs → Sm [(12, 8), (12, 9), (12, 10), (12, 12)] [55, 56] κ ws w152 → 0 ≤ p152_s0.toInt → p152_s0.toInt ≤ 4 → fld w152 a0 12 1 (.int v10q1) → fld w152 a0 12 11 (.int f1) → fld w152 a0 12 12 (.int v107m) → fld w152 a0 12 8 (.int p105_m_a0_X12_8) → PS κ w152 a0 f1.toInt.toNat pb pe b (h + 1) (φ + 2 * (v1m.toInt - f0.toInt) - 1) nc → lv_has ls 5 [(0, .ref a0), (1, .int v10), (2, .int v10n), (3, .int p105_l3)] → W p l e (headSpec (ws_u yX12_compare cX12_compare 5 (some .boolean)) ({ frames := 6, cells := 0, slots := 0, locals := 130 })).room s m ([.ref a0] : List Value).toArray below meth c H locs 0 0 QQ (F0 m 152 ls [.int p152_s0]) := by
              intro H locs ls w152 p152_s0 hw hM l_p152_s0 h_p152_s0 f_a0_X12_1 f_a0_X12_11 f_a0_X12_12 f_a0_X12_8 hPS hl
              have hRT := hPS.rt
              refine lv_istore (lv' := [(4, .int p152_s0), (0, .ref a0), (1, .int v10), (2, .int v10n), (3, .int p105_l3)]) hx hb dX12_compare_152 hl (by decide) rfl (fun ls hl => ?_)
              refine lv_aload_n hx hb dX12_compare_154 rfl (lv_at hl 1 rfl) ?_
              refine t_calli (va_runV (As := []) (rest := []) ⟨hx, hb, hml, hown, hts⟩ (t_X12_sum l dC dI tys κ B w152 hw.2.2.2.2 a0 k_a0 v107m (by omega) (by omega) f_a0_X12_12 f1 (by omega) (by omega) f_a0_X12_11 hPS (by omega) (by omega) (by omega) H.size) (cwV 0 hts (gUV tw_1347 tw_1349 ts_4_5 tw_13 tw_1350) rfl rfl rfl (by decide +kernel) ⟨(Nat.le_of_ble_eq_true rfl), (Nat.le_of_ble_eq_true rfl)⟩) ⟨cPre.blind, t_recv hw (ci := 12) k_a0 rfl rfl, cPre.use hw.2.1 hw.1 hw.2.2.1 hE⟩ rfl rfl hl.1 rfl (lv_room (Nat.le_of_ble_eq_true rfl)) dX12_compare_155 ⟨(Nat.le_of_ble_eq_true rfl), (Nat.le_of_ble_eq_true rfl)⟩) hw hA (fun _ _ h => h.2.2.1) (fun v155 w_5 H locs hp hw => ?_)
              obtain ⟨l_v155, h_v155, _, hm, ⟨v155m, l_v155m, h_v155m, f_a0_X12_12, y_v155, g_v155⟩⟩ := hp
              have hM := hM.trans hm (by decide) (by decide)
              have f_a0_X12_1 := hm.1 _ _ _ _ f_a0_X12_1 (by decide)
              have f_a0_X12_11 := hm.1 _ _ _ _ f_a0_X12_11 (by decide)
              refine lv_if_ne (tgt := 163) hx hb dX12_compare_158 (by decide) (fun c_158 => ?_) (fun c_158 => ?_)
              · simp only [fa_lt, fa_le, fa_eq, li_0] at c_158
                have hPS := g_v155.2 c_158
                have hRT := hPS.rt
                refine lv_aload_n hx hb dX12_compare_163 rfl (lv_at hl 1 rfl) ?_
                refine lv_bipush (v := 6) hx hb dX12_compare_164 (by decide) ?_
                refine lv_iload hx hb dX12_compare_166 (lv_at hl 0 rfl) ?_
                refine lv_iadd hx hb dX12_compare_168 ?_
                refine lv_topi (fun v168 e_v168 => ?_)
                have e_v168 : v168.toInt = 6 + p152_s0.toInt := ad_i e_v168 li_6 rfl (by omega) (by omega)
                refine lv_iconst (v := 0) hx hb dX12_compare_169 (by decide) ?_
                refine t_callv (va_runV (As := [.int v168, .int 0]) (rest := []) ⟨hx, hb, hml, hown, hts⟩ (t_X12_puts l dC dI tys κ B w_5 hw.2.2.2.2 a0 k_a0 v168 (by omega) (by omega) 0 (by decide) (by decide) f1 (by omega) (by omega) f_a0_X12_11 hPS (by omega) (by have := li_0; exact ⟨fun _ => by omega, fun _ => by omega, fun _ => by omega, fun _ _ _ => by omega⟩) H.size) (cwV 2 hts (gUV tw_1364 tw_1366 ts_4_9 tw_13 tw_1367) rfl rfl rfl (by decide +kernel) ⟨(Nat.le_of_ble_eq_true rfl), (Nat.le_of_ble_eq_true rfl)⟩) ⟨cPre.blind, t_recv hw (ci := 12) k_a0 rfl rfl, cPre.use hw.2.1 hw.1 hw.2.2.1 hE⟩ rfl rfl hl.1 rfl (lv_room (Nat.le_of_ble_eq_true rfl)) dX12_compare_170 ⟨(Nat.le_of_ble_eq_true rfl), (Nat.le_of_ble_eq_true rfl)⟩) hw hA (fun _ h => h.1) (fun w_6 H locs hp hw => ?_)
                obtain ⟨_, hm, ⟨h9_v170, hPS, hh_v170⟩⟩ := hp
                have zc_0 := li_0
                have hM := hM.trans hm (by decide) (by decide)
                have f_a0_X12_1 := hm.1 _ _ _ _ f_a0_X12_1 (by decide)
                have f_a0_X12_11 := hm.1 _ _ _ _ f_a0_X12_11 (by decide)
                have f_a0_X12_12 := hm.1 _ _ _ _ f_a0_X12_12 (by decide)
                have hRT := hPS.rt
                refine lv_iconst (v := 1) hx hb dX12_compare_173 (by decide) ?_
                rw [hQ]
                refine W.widen (k := 0) (n := 0) (Nat.le_refl _) (Nat.le_refl _) ?_
                exact W.zret (v := 1) hx hb hr rfl (fun t ht hW => ⟨⟨1, w_6, rfl, ⟨(by decide), (by decide), hw.2.2.2.2, hM, ⟨v155m, (by omega), (by omega), f_a0_X12_12, (by have := li_1; omega), ⟨fun hz => absurd hz (by decide), fun _ => hPS.to (by omega) (by omega)⟩⟩⟩, by rw [ht]; exact hw.2.1, va_K.moved hW.alike hw.1, hw.2.2.1⟩, hw.2.2.2.1.F ht⟩) hw.2.2.2.1.2.2 dX12_compare_174
              · simp only [fa_lt, fa_le, fa_eq, li_0] at c_158
                have hRT := g_v155.1 c_158
                refine lv_iconst (v := 0) hx hb dX12_compare_161 (by decide) ?_
                rw [hQ]
                refine W.widen (k := 0) (n := 0) (Nat.le_refl _) (Nat.le_refl _) ?_
                exact W.zret (v := 0) hx hb hr rfl (fun t ht hW => ⟨⟨0, w_5, rfl, ⟨(by decide), (by decide), hw.2.2.2.2, hM, ⟨v155m, (by omega), (by omega), f_a0_X12_12, (by have := li_0; omega), ⟨fun _ => hRT, fun hz => absurd (by decide) hz⟩⟩⟩, by rw [ht]; exact hw.2.1, va_K.moved hW.alike hw.1, hw.2.2.1⟩, hw.2.2.2.1.F ht⟩) hw.2.2.2.1.2.2 dX12_compare_162
            refine lv_icmp_ne (tgt := 133) hx hb dX12_compare_118 (by decide) (fun c_118 => ?_) (fun c_118 => by exfalso; simp only [fa_lt, fa_le, fa_eq, li_60] at c_118; omega)
            simp only [fa_lt, fa_le, fa_eq, li_60] at c_118
            refine lv_iload_n hx hb dX12_compare_133 rfl (lv_at hl 1 rfl) ?_
            refine lv_bipush (v := 61) hx hb dX12_compare_134 (by decide) ?_
            refine lv_icmp_ne (tgt := 143) hx hb dX12_compare_136 (by decide) (fun c_136 => by exfalso; simp only [fa_lt, fa_le, fa_eq, li_61] at c_136; omega) (fun c_136 => ?_)
            simp only [fa_lt, fa_le, fa_eq, li_61] at c_136
            refine lv_iconst (v := 2) hx hb dX12_compare_139 (by decide) ?_
            refine lv_goto (tgt := 152) hx hb dX12_compare_140 (by decide) ?_
            exact J152 _ _ _ w_4 2 hw hM (by decide) (by decide) f_a0_X12_1 f_a0_X12_11 f_a0_X12_12 f_a0_X12_8 hPS (lv_sub hl [0, 1, 2, 3] rfl)
          · simp only [fa_lt, fa_le, fa_eq, li_0] at c_110
            refine lv_iconst (v := 0) hx hb dX12_compare_113 (by decide) ?_
            rw [hQ]
            refine W.widen (k := 0) (n := 0) (Nat.le_refl _) (Nat.le_refl _) ?_
            exact W.zret (v := 0) hx hb hr rfl (fun t ht hW => ⟨⟨0, w_4, rfl, ⟨(by decide), (by decide), hw.2.2.2.2, hM, ⟨v107m, (by omega), (by omega), f_a0_X12_12, (by have := li_0; omega), ⟨fun _ => hRT, fun hz => absurd (by decide) hz⟩⟩⟩, by rw [ht]; exact hw.2.1, va_K.moved hW.alike hw.1, hw.2.2.1⟩, hw.2.2.2.1.F ht⟩) hw.2.2.2.1.2.2 dX12_compare_114
        refine lv_if_eq (tgt := 105) hx hb dX12_compare_92 (by decide) (fun _ => ?_) (fun c_92 => absurd c_92 (by decide))
        exact J105 _ _ _ w_3 0 v50 hw hM (by decide) (by decide) (by omega) (by omega) f_a0_X12_1 f_a0_X12_11 f_a0_X12_12 f_a0_X12_8 hPS (lv_sub hl [1, 2, 3, 0] rfl)
      · simp only [fa_lt, fa_le, fa_eq, li_61] at c_57
        refine lv_aload_n hx hb dX12_compare_60 rfl (lv_at hl 0 rfl) ?_
        refine t_getk (ci := 12) (C := RX12) (T := TX12) (N := 38) hx hb hts iX12 hown hw rfl 8 (by decide) (hts _ tw_1133) (fun _ h9 => h9) dX12_compare_61 f_a0_X12_8 ?_
        refine lv_aload_n hx hb dX12_compare_64 rfl (lv_at hl 0 rfl) ?_
        refine t_getk (ci := 12) (C := RX12) (T := TX12) (N := 38) hx hb hts iX12 hown hw rfl 1 (by decide) (hts _ tw_1126) (fun _ h9 => h9) dX12_compare_65 f_a0_X12_1 ?_
        refine lv_icmp_ge (tgt := 89) hx hb dX12_compare_68 (by decide) (fun c_68 => ?_) (fun c_68 => ?_)
        · simp only [fa_lt, fa_le, fa_eq] at c_68
          refine lv_iconst (v := 0) hx hb dX12_compare_89 (by decide) ?_
          refine lv_istore_n (lv' := [(3, .int 0), (0, .ref a0), (1, .int v10), (2, .int v10n)]) hx hb dX12_compare_90 rfl hl (by decide) rfl (fun ls hl => ?_)
          refine lv_iload_n hx hb dX12_compare_91 rfl (lv_at hl 0 rfl) ?_
          have J105 : ∀ (H : Heap) (locs : List Loc) (ls : Array Slot) (w105 : va_W) (p105_l3 : Int32) (p105_m_a0_X12_8 : Int32), tW (dC, dI) tys κ B A s w105 H locs → Sm [(12, 8), (12, 9), (12, 10), (12, 12)] [55, 56] κ ws w105 → 0 ≤ p105_l3.toInt → p105_l3.toInt ≤ 1 → 1 ≤ p105_m_a0_X12_8.toInt → p105_m_a0_X12_8.toInt ≤ 401 → fld w105 a0 12 1 (.int v10q1) → fld w105 a0 12 11 (.int f1) → fld w105 a0 12 12 (.int v1m) → fld w105 a0 12 8 (.int p105_m_a0_X12_8) → PS κ w105 a0 f1.toInt.toNat pb pe b (h + 1) (φ + 2 * (v1m.toInt - f0.toInt) - 1) nc → lv_has ls 5 [(0, .ref a0), (1, .int v10), (2, .int v10n), (3, .int p105_l3)] → W p l e (headSpec (ws_u yX12_compare cX12_compare 5 (some .boolean)) ({ frames := 6, cells := 0, slots := 0, locals := 130 })).room s m ([.ref a0] : List Value).toArray below meth c H locs 0 0 QQ (F0 m 105 ls []) := by
            intro H locs ls w105 p105_l3 p105_m_a0_X12_8 hw hM l_p105_l3 h_p105_l3 l_p105_m_a0_X12_8 h_p105_m_a0_X12_8 f_a0_X12_1 f_a0_X12_11 f_a0_X12_12 f_a0_X12_8 hPS hl
            have hRT := hPS.rt
            refine lv_aload_n hx hb dX12_compare_105 rfl (lv_at hl 0 rfl) ?_
            refine lv_iload_n hx hb dX12_compare_106 rfl (lv_at hl 2 rfl) ?_
            refine t_calli (va_runV (As := [.int v10n]) (rest := []) ⟨hx, hb, hml, hown, hts⟩ (t_X12_makes l dC dI tys κ B w105 hw.2.2.2.2 a0 k_a0 v10n (by omega) (by omega) v1m (by omega) (by omega) f_a0_X12_12 H.size) (cwV 1 hts (gUV tw_1360 tw_1362 ts_4_8 tw_13 tw_1363) rfl rfl rfl (by decide +kernel) ⟨(Nat.le_of_ble_eq_true rfl), (Nat.le_of_ble_eq_true rfl)⟩) ⟨cPre.blind, t_recv hw (ci := 12) k_a0 rfl rfl, cPre.use hw.2.1 hw.1 hw.2.2.1 hE⟩ rfl rfl hl.1 rfl (lv_room (Nat.le_of_ble_eq_true rfl)) dX12_compare_107 ⟨(Nat.le_of_ble_eq_true rfl), (Nat.le_of_ble_eq_true rfl)⟩) hw hA (fun _ _ h => h.2.2.1) (fun v107 w_7 H locs hp hw => ?_)
            obtain ⟨l_v107, h_v107, _, hm, ⟨v107m, l_v107m, h_v107m, f_a0_X12_12, y_v107⟩⟩ := hp
            have hM := hM.trans hm (by decide) (by decide)
            have f_a0_X12_1 := hm.1 _ _ _ _ f_a0_X12_1 (by decide)
            have f_a0_X12_11 := hm.1 _ _ _ _ f_a0_X12_11 (by decide)
            have f_a0_X12_8 := hm.1 _ _ _ _ f_a0_X12_8 (by decide)
            have hPS := hPS.sm hm (by decide) (by decide)
            have hRT := hRT.sm hm (by decide) (by decide)
            refine lv_if_ne (tgt := 115) hx hb dX12_compare_110 (by decide) (fun c_110 => ?_) (fun c_110 => ?_)
            · simp only [fa_lt, fa_le, fa_eq, li_0] at c_110
              refine lv_iload_n hx hb dX12_compare_115 rfl (lv_at hl 1 rfl) ?_
              refine lv_bipush (v := 60) hx hb dX12_compare_116 (by decide) ?_
              have J152 : ∀ (H : Heap) (locs : List Loc) (ls : Array Slot) (w152 : va_W) (p152_s0 : Int32), tW (dC, dI) tys κ B A s w152 H locs → Sm [(12, 8), (12, 9), (12, 10), (12, 12)] [55, 56] κ ws w152 → 0 ≤ p152_s0.toInt → p152_s0.toInt ≤ 4 → fld w152 a0 12 1 (.int v10q1) → fld w152 a0 12 11 (.int f1) → fld w152 a0 12 12 (.int v107m) → fld w152 a0 12 8 (.int p105_m_a0_X12_8) → PS κ w152 a0 f1.toInt.toNat pb pe b (h + 1) (φ + 2 * (v1m.toInt - f0.toInt) - 1) nc → lv_has ls 5 [(0, .ref a0), (1, .int v10), (2, .int v10n), (3, .int p105_l3)] → W p l e (headSpec (ws_u yX12_compare cX12_compare 5 (some .boolean)) ({ frames := 6, cells := 0, slots := 0, locals := 130 })).room s m ([.ref a0] : List Value).toArray below meth c H locs 0 0 QQ (F0 m 152 ls [.int p152_s0]) := by
                intro H locs ls w152 p152_s0 hw hM l_p152_s0 h_p152_s0 f_a0_X12_1 f_a0_X12_11 f_a0_X12_12 f_a0_X12_8 hPS hl
                have hRT := hPS.rt
                refine lv_istore (lv' := [(4, .int p152_s0), (0, .ref a0), (1, .int v10), (2, .int v10n), (3, .int p105_l3)]) hx hb dX12_compare_152 hl (by decide) rfl (fun ls hl => ?_)
                refine lv_aload_n hx hb dX12_compare_154 rfl (lv_at hl 1 rfl) ?_
                refine t_calli (va_runV (As := []) (rest := []) ⟨hx, hb, hml, hown, hts⟩ (t_X12_sum l dC dI tys κ B w152 hw.2.2.2.2 a0 k_a0 v107m (by omega) (by omega) f_a0_X12_12 f1 (by omega) (by omega) f_a0_X12_11 hPS (by omega) (by omega) (by omega) H.size) (cwV 0 hts (gUV tw_1347 tw_1349 ts_4_5 tw_13 tw_1350) rfl rfl rfl (by decide +kernel) ⟨(Nat.le_of_ble_eq_true rfl), (Nat.le_of_ble_eq_true rfl)⟩) ⟨cPre.blind, t_recv hw (ci := 12) k_a0 rfl rfl, cPre.use hw.2.1 hw.1 hw.2.2.1 hE⟩ rfl rfl hl.1 rfl (lv_room (Nat.le_of_ble_eq_true rfl)) dX12_compare_155 ⟨(Nat.le_of_ble_eq_true rfl), (Nat.le_of_ble_eq_true rfl)⟩) hw hA (fun _ _ h => h.2.2.1) (fun v155 w_8 H locs hp hw => ?_)
                obtain ⟨l_v155, h_v155, _, hm, ⟨v155m, l_v155m, h_v155m, f_a0_X12_12, y_v155, g_v155⟩⟩ := hp
                have hM := hM.trans hm (by decide) (by decide)
                have f_a0_X12_1 := hm.1 _ _ _ _ f_a0_X12_1 (by decide)
                have f_a0_X12_11 := hm.1 _ _ _ _ f_a0_X12_11 (by decide)
                refine lv_if_ne (tgt := 163) hx hb dX12_compare_158 (by decide) (fun c_158 => ?_) (fun c_158 => ?_)
                · simp only [fa_lt, fa_le, fa_eq, li_0] at c_158
                  have hPS := g_v155.2 c_158
                  have hRT := hPS.rt
                  refine lv_aload_n hx hb dX12_compare_163 rfl (lv_at hl 1 rfl) ?_
                  refine lv_bipush (v := 6) hx hb dX12_compare_164 (by decide) ?_
                  refine lv_iload hx hb dX12_compare_166 (lv_at hl 0 rfl) ?_
                  refine lv_iadd hx hb dX12_compare_168 ?_
                  refine lv_topi (fun v168 e_v168 => ?_)
                  have e_v168 : v168.toInt = 6 + p152_s0.toInt := ad_i e_v168 li_6 rfl (by omega) (by omega)
                  refine lv_iconst (v := 0) hx hb dX12_compare_169 (by decide) ?_
                  refine t_callv (va_runV (As := [.int v168, .int 0]) (rest := []) ⟨hx, hb, hml, hown, hts⟩ (t_X12_puts l dC dI tys κ B w_8 hw.2.2.2.2 a0 k_a0 v168 (by omega) (by omega) 0 (by decide) (by decide) f1 (by omega) (by omega) f_a0_X12_11 hPS (by omega) (by have := li_0; exact ⟨fun _ => by omega, fun _ => by omega, fun _ => by omega, fun _ _ _ => by omega⟩) H.size) (cwV 2 hts (gUV tw_1364 tw_1366 ts_4_9 tw_13 tw_1367) rfl rfl rfl (by decide +kernel) ⟨(Nat.le_of_ble_eq_true rfl), (Nat.le_of_ble_eq_true rfl)⟩) ⟨cPre.blind, t_recv hw (ci := 12) k_a0 rfl rfl, cPre.use hw.2.1 hw.1 hw.2.2.1 hE⟩ rfl rfl hl.1 rfl (lv_room (Nat.le_of_ble_eq_true rfl)) dX12_compare_170 ⟨(Nat.le_of_ble_eq_true rfl), (Nat.le_of_ble_eq_true rfl)⟩) hw hA (fun _ h => h.1) (fun w_9 H locs hp hw => ?_)
                  obtain ⟨_, hm, ⟨h9_v170, hPS, hh_v170⟩⟩ := hp
                  have zc_0 := li_0
                  have hM := hM.trans hm (by decide) (by decide)
                  have f_a0_X12_1 := hm.1 _ _ _ _ f_a0_X12_1 (by decide)
                  have f_a0_X12_11 := hm.1 _ _ _ _ f_a0_X12_11 (by decide)
                  have f_a0_X12_12 := hm.1 _ _ _ _ f_a0_X12_12 (by decide)
                  have hRT := hPS.rt
                  refine lv_iconst (v := 1) hx hb dX12_compare_173 (by decide) ?_
                  rw [hQ]
                  refine W.widen (k := 0) (n := 0) (Nat.le_refl _) (Nat.le_refl _) ?_
                  exact W.zret (v := 1) hx hb hr rfl (fun t ht hW => ⟨⟨1, w_9, rfl, ⟨(by decide), (by decide), hw.2.2.2.2, hM, ⟨v155m, (by omega), (by omega), f_a0_X12_12, (by have := li_1; omega), ⟨fun hz => absurd hz (by decide), fun _ => hPS.to (by omega) (by omega)⟩⟩⟩, by rw [ht]; exact hw.2.1, va_K.moved hW.alike hw.1, hw.2.2.1⟩, hw.2.2.2.1.F ht⟩) hw.2.2.2.1.2.2 dX12_compare_174
                · simp only [fa_lt, fa_le, fa_eq, li_0] at c_158
                  have hRT := g_v155.1 c_158
                  refine lv_iconst (v := 0) hx hb dX12_compare_161 (by decide) ?_
                  rw [hQ]
                  refine W.widen (k := 0) (n := 0) (Nat.le_refl _) (Nat.le_refl _) ?_
                  exact W.zret (v := 0) hx hb hr rfl (fun t ht hW => ⟨⟨0, w_8, rfl, ⟨(by decide), (by decide), hw.2.2.2.2, hM, ⟨v155m, (by omega), (by omega), f_a0_X12_12, (by have := li_0; omega), ⟨fun _ => hRT, fun hz => absurd (by decide) hz⟩⟩⟩, by rw [ht]; exact hw.2.1, va_K.moved hW.alike hw.1, hw.2.2.1⟩, hw.2.2.2.1.F ht⟩) hw.2.2.2.1.2.2 dX12_compare_162
              refine lv_icmp_ne (tgt := 133) hx hb dX12_compare_118 (by decide) (fun c_118 => ?_) (fun c_118 => ?_)
              · simp only [fa_lt, fa_le, fa_eq, li_60] at c_118
                refine lv_iload_n hx hb dX12_compare_133 rfl (lv_at hl 1 rfl) ?_
                refine lv_bipush (v := 61) hx hb dX12_compare_134 (by decide) ?_
                refine lv_icmp_ne (tgt := 143) hx hb dX12_compare_136 (by decide) (fun c_136 => ?_) (fun c_136 => ?_)
                · simp only [fa_lt, fa_le, fa_eq, li_61] at c_136
                  refine lv_iload_n hx hb dX12_compare_143 rfl (lv_at hl 3 rfl) ?_
                  refine lv_if_eq (tgt := 151) hx hb dX12_compare_144 (by decide) (fun c_144 => ?_) (fun c_144 => ?_)
                  · simp only [fa_lt, fa_le, fa_eq, li_0] at c_144
                    refine lv_iconst (v := 4) hx hb dX12_compare_151 (by decide) ?_
                    exact J152 _ _ _ w_7 4 hw hM (by decide) (by decide) f_a0_X12_1 f_a0_X12_11 f_a0_X12_12 f_a0_X12_8 hPS (lv_sub hl [0, 1, 2, 3] rfl)
                  · simp only [fa_lt, fa_le, fa_eq, li_0] at c_144
                    refine lv_iconst (v := 3) hx hb dX12_compare_147 (by decide) ?_
                    refine lv_goto (tgt := 152) hx hb dX12_compare_148 (by decide) ?_
                    exact J152 _ _ _ w_7 3 hw hM (by decide) (by decide) f_a0_X12_1 f_a0_X12_11 f_a0_X12_12 f_a0_X12_8 hPS (lv_sub hl [0, 1, 2, 3] rfl)
                · simp only [fa_lt, fa_le, fa_eq, li_61] at c_136
                  refine lv_iconst (v := 2) hx hb dX12_compare_139 (by decide) ?_
                  refine lv_goto (tgt := 152) hx hb dX12_compare_140 (by decide) ?_
                  exact J152 _ _ _ w_7 2 hw hM (by decide) (by decide) f_a0_X12_1 f_a0_X12_11 f_a0_X12_12 f_a0_X12_8 hPS (lv_sub hl [0, 1, 2, 3] rfl)
              · simp only [fa_lt, fa_le, fa_eq, li_60] at c_118
                refine lv_iload_n hx hb dX12_compare_121 rfl (lv_at hl 3 rfl) ?_
                refine lv_if_eq (tgt := 129) hx hb dX12_compare_122 (by decide) (fun c_122 => ?_) (fun c_122 => ?_)
                · simp only [fa_lt, fa_le, fa_eq, li_0] at c_122
                  refine lv_iconst (v := 0) hx hb dX12_compare_129 (by decide) ?_
                  refine lv_goto (tgt := 152) hx hb dX12_compare_130 (by decide) ?_
                  exact J152 _ _ _ w_7 0 hw hM (by decide) (by decide) f_a0_X12_1 f_a0_X12_11 f_a0_X12_12 f_a0_X12_8 hPS (lv_sub hl [0, 1, 2, 3] rfl)
                · simp only [fa_lt, fa_le, fa_eq, li_0] at c_122
                  refine lv_iconst (v := 1) hx hb dX12_compare_125 (by decide) ?_
                  refine lv_goto (tgt := 152) hx hb dX12_compare_126 (by decide) ?_
                  exact J152 _ _ _ w_7 1 hw hM (by decide) (by decide) f_a0_X12_1 f_a0_X12_11 f_a0_X12_12 f_a0_X12_8 hPS (lv_sub hl [0, 1, 2, 3] rfl)
            · simp only [fa_lt, fa_le, fa_eq, li_0] at c_110
              refine lv_iconst (v := 0) hx hb dX12_compare_113 (by decide) ?_
              rw [hQ]
              refine W.widen (k := 0) (n := 0) (Nat.le_refl _) (Nat.le_refl _) ?_
              exact W.zret (v := 0) hx hb hr rfl (fun t ht hW => ⟨⟨0, w_7, rfl, ⟨(by decide), (by decide), hw.2.2.2.2, hM, ⟨v107m, (by omega), (by omega), f_a0_X12_12, (by have := li_0; omega), ⟨fun _ => hRT, fun hz => absurd (by decide) hz⟩⟩⟩, by rw [ht]; exact hw.2.1, va_K.moved hW.alike hw.1, hw.2.2.1⟩, hw.2.2.2.1.F ht⟩) hw.2.2.2.1.2.2 dX12_compare_114
          refine lv_if_eq (tgt := 105) hx hb dX12_compare_92 (by decide) (fun _ => ?_) (fun c_92 => absurd c_92 (by decide))
          exact J105 _ _ _ w_3 0 v50 hw hM (by decide) (by decide) (by omega) (by omega) f_a0_X12_1 f_a0_X12_11 f_a0_X12_12 f_a0_X12_8 hPS (lv_sub hl [1, 2, 3, 0] rfl)
        · simp only [fa_lt, fa_le, fa_eq] at c_68
          refine lv_aload_n hx hb dX12_compare_71 rfl (lv_at hl 0 rfl) ?_
          refine t_getr (k1 := 54) (ci := 12) (C := RX12) (T := TX12) (N := 38) hx hb hts iX12 hown hw k_a0 rfl rfl rfl 0 (by decide) (hts _ tw_1125) (fun _ h9 => h9) dX12_compare_72 rfl (fun v72 k_v72 f_a0_X12_0 => ?_)
          refine lv_aload_n hx hb dX12_compare_75 rfl (lv_at hl 0 rfl) ?_
          refine t_getk (ci := 12) (C := RX12) (T := TX12) (N := 38) hx hb hts iX12 hown hw rfl 8 (by decide) (hts _ tw_1133) (fun _ h9 => h9) dX12_compare_76 f_a0_X12_8 ?_
          refine t_bald hx hb hw k_v72 rfl rfl (by omega) (show v50.toInt < 400 by omega) dX12_compare_79 (fun v79 r_v79 s_v79 q_v79 => ?_)
          have l_v79 := i32_lo v79
          have h_v79 := i32_hi v79
          refine lv_bipush (v := 61) hx hb dX12_compare_80 (by decide) ?_
          refine lv_icmp_ne (tgt := 89) hx hb dX12_compare_82 (by decide) (fun c_82 => ?_) (fun c_82 => ?_)
          · simp only [fa_lt, fa_le, fa_eq, li_61] at c_82
            refine lv_iconst (v := 0) hx hb dX12_compare_89 (by decide) ?_
            refine lv_istore_n (lv' := [(3, .int 0), (0, .ref a0), (1, .int v10), (2, .int v10n)]) hx hb dX12_compare_90 rfl hl (by decide) rfl (fun ls hl => ?_)
            refine lv_iload_n hx hb dX12_compare_91 rfl (lv_at hl 0 rfl) ?_
            have J105 : ∀ (H : Heap) (locs : List Loc) (ls : Array Slot) (w105 : va_W) (p105_l3 : Int32) (p105_m_a0_X12_8 : Int32), tW (dC, dI) tys κ B A s w105 H locs → Sm [(12, 8), (12, 9), (12, 10), (12, 12)] [55, 56] κ ws w105 → 0 ≤ p105_l3.toInt → p105_l3.toInt ≤ 1 → 1 ≤ p105_m_a0_X12_8.toInt → p105_m_a0_X12_8.toInt ≤ 401 → fld w105 a0 12 1 (.int v10q1) → fld w105 a0 12 11 (.int f1) → fld w105 a0 12 12 (.int v1m) → fld w105 a0 12 8 (.int p105_m_a0_X12_8) → PS κ w105 a0 f1.toInt.toNat pb pe b (h + 1) (φ + 2 * (v1m.toInt - f0.toInt) - 1) nc → lv_has ls 5 [(0, .ref a0), (1, .int v10), (2, .int v10n), (3, .int p105_l3)] → W p l e (headSpec (ws_u yX12_compare cX12_compare 5 (some .boolean)) ({ frames := 6, cells := 0, slots := 0, locals := 130 })).room s m ([.ref a0] : List Value).toArray below meth c H locs 0 0 QQ (F0 m 105 ls []) := by
              intro H locs ls w105 p105_l3 p105_m_a0_X12_8 hw hM l_p105_l3 h_p105_l3 l_p105_m_a0_X12_8 h_p105_m_a0_X12_8 f_a0_X12_1 f_a0_X12_11 f_a0_X12_12 f_a0_X12_8 hPS hl
              have hRT := hPS.rt
              refine lv_aload_n hx hb dX12_compare_105 rfl (lv_at hl 0 rfl) ?_
              refine lv_iload_n hx hb dX12_compare_106 rfl (lv_at hl 2 rfl) ?_
              refine t_calli (va_runV (As := [.int v10n]) (rest := []) ⟨hx, hb, hml, hown, hts⟩ (t_X12_makes l dC dI tys κ B w105 hw.2.2.2.2 a0 k_a0 v10n (by omega) (by omega) v1m (by omega) (by omega) f_a0_X12_12 H.size) (cwV 1 hts (gUV tw_1360 tw_1362 ts_4_8 tw_13 tw_1363) rfl rfl rfl (by decide +kernel) ⟨(Nat.le_of_ble_eq_true rfl), (Nat.le_of_ble_eq_true rfl)⟩) ⟨cPre.blind, t_recv hw (ci := 12) k_a0 rfl rfl, cPre.use hw.2.1 hw.1 hw.2.2.1 hE⟩ rfl rfl hl.1 rfl (lv_room (Nat.le_of_ble_eq_true rfl)) dX12_compare_107 ⟨(Nat.le_of_ble_eq_true rfl), (Nat.le_of_ble_eq_true rfl)⟩) hw hA (fun _ _ h => h.2.2.1) (fun v107 w_10 H locs hp hw => ?_)
              obtain ⟨l_v107, h_v107, _, hm, ⟨v107m, l_v107m, h_v107m, f_a0_X12_12, y_v107⟩⟩ := hp
              have hM := hM.trans hm (by decide) (by decide)
              have f_a0_X12_1 := hm.1 _ _ _ _ f_a0_X12_1 (by decide)
              have f_a0_X12_11 := hm.1 _ _ _ _ f_a0_X12_11 (by decide)
              have f_a0_X12_8 := hm.1 _ _ _ _ f_a0_X12_8 (by decide)
              have hPS := hPS.sm hm (by decide) (by decide)
              have hRT := hRT.sm hm (by decide) (by decide)
              refine lv_if_ne (tgt := 115) hx hb dX12_compare_110 (by decide) (fun c_110 => ?_) (fun c_110 => ?_)
              · simp only [fa_lt, fa_le, fa_eq, li_0] at c_110
                refine lv_iload_n hx hb dX12_compare_115 rfl (lv_at hl 1 rfl) ?_
                refine lv_bipush (v := 60) hx hb dX12_compare_116 (by decide) ?_
                have J152 : ∀ (H : Heap) (locs : List Loc) (ls : Array Slot) (w152 : va_W) (p152_s0 : Int32), tW (dC, dI) tys κ B A s w152 H locs → Sm [(12, 8), (12, 9), (12, 10), (12, 12)] [55, 56] κ ws w152 → 0 ≤ p152_s0.toInt → p152_s0.toInt ≤ 4 → fld w152 a0 12 1 (.int v10q1) → fld w152 a0 12 11 (.int f1) → fld w152 a0 12 12 (.int v107m) → fld w152 a0 12 8 (.int p105_m_a0_X12_8) → PS κ w152 a0 f1.toInt.toNat pb pe b (h + 1) (φ + 2 * (v1m.toInt - f0.toInt) - 1) nc → lv_has ls 5 [(0, .ref a0), (1, .int v10), (2, .int v10n), (3, .int p105_l3)] → W p l e (headSpec (ws_u yX12_compare cX12_compare 5 (some .boolean)) ({ frames := 6, cells := 0, slots := 0, locals := 130 })).room s m ([.ref a0] : List Value).toArray below meth c H locs 0 0 QQ (F0 m 152 ls [.int p152_s0]) := by
                  intro H locs ls w152 p152_s0 hw hM l_p152_s0 h_p152_s0 f_a0_X12_1 f_a0_X12_11 f_a0_X12_12 f_a0_X12_8 hPS hl
                  have hRT := hPS.rt
                  refine lv_istore (lv' := [(4, .int p152_s0), (0, .ref a0), (1, .int v10), (2, .int v10n), (3, .int p105_l3)]) hx hb dX12_compare_152 hl (by decide) rfl (fun ls hl => ?_)
                  refine lv_aload_n hx hb dX12_compare_154 rfl (lv_at hl 1 rfl) ?_
                  refine t_calli (va_runV (As := []) (rest := []) ⟨hx, hb, hml, hown, hts⟩ (t_X12_sum l dC dI tys κ B w152 hw.2.2.2.2 a0 k_a0 v107m (by omega) (by omega) f_a0_X12_12 f1 (by omega) (by omega) f_a0_X12_11 hPS (by omega) (by omega) (by omega) H.size) (cwV 0 hts (gUV tw_1347 tw_1349 ts_4_5 tw_13 tw_1350) rfl rfl rfl (by decide +kernel) ⟨(Nat.le_of_ble_eq_true rfl), (Nat.le_of_ble_eq_true rfl)⟩) ⟨cPre.blind, t_recv hw (ci := 12) k_a0 rfl rfl, cPre.use hw.2.1 hw.1 hw.2.2.1 hE⟩ rfl rfl hl.1 rfl (lv_room (Nat.le_of_ble_eq_true rfl)) dX12_compare_155 ⟨(Nat.le_of_ble_eq_true rfl), (Nat.le_of_ble_eq_true rfl)⟩) hw hA (fun _ _ h => h.2.2.1) (fun v155 w_11 H locs hp hw => ?_)
                  obtain ⟨l_v155, h_v155, _, hm, ⟨v155m, l_v155m, h_v155m, f_a0_X12_12, y_v155, g_v155⟩⟩ := hp
                  have hM := hM.trans hm (by decide) (by decide)
                  have f_a0_X12_1 := hm.1 _ _ _ _ f_a0_X12_1 (by decide)
                  have f_a0_X12_11 := hm.1 _ _ _ _ f_a0_X12_11 (by decide)
                  refine lv_if_ne (tgt := 163) hx hb dX12_compare_158 (by decide) (fun c_158 => ?_) (fun c_158 => ?_)
                  · simp only [fa_lt, fa_le, fa_eq, li_0] at c_158
                    have hPS := g_v155.2 c_158
                    have hRT := hPS.rt
                    refine lv_aload_n hx hb dX12_compare_163 rfl (lv_at hl 1 rfl) ?_
                    refine lv_bipush (v := 6) hx hb dX12_compare_164 (by decide) ?_
                    refine lv_iload hx hb dX12_compare_166 (lv_at hl 0 rfl) ?_
                    refine lv_iadd hx hb dX12_compare_168 ?_
                    refine lv_topi (fun v168 e_v168 => ?_)
                    have e_v168 : v168.toInt = 6 + p152_s0.toInt := ad_i e_v168 li_6 rfl (by omega) (by omega)
                    refine lv_iconst (v := 0) hx hb dX12_compare_169 (by decide) ?_
                    refine t_callv (va_runV (As := [.int v168, .int 0]) (rest := []) ⟨hx, hb, hml, hown, hts⟩ (t_X12_puts l dC dI tys κ B w_11 hw.2.2.2.2 a0 k_a0 v168 (by omega) (by omega) 0 (by decide) (by decide) f1 (by omega) (by omega) f_a0_X12_11 hPS (by omega) (by have := li_0; exact ⟨fun _ => by omega, fun _ => by omega, fun _ => by omega, fun _ _ _ => by omega⟩) H.size) (cwV 2 hts (gUV tw_1364 tw_1366 ts_4_9 tw_13 tw_1367) rfl rfl rfl (by decide +kernel) ⟨(Nat.le_of_ble_eq_true rfl), (Nat.le_of_ble_eq_true rfl)⟩) ⟨cPre.blind, t_recv hw (ci := 12) k_a0 rfl rfl, cPre.use hw.2.1 hw.1 hw.2.2.1 hE⟩ rfl rfl hl.1 rfl (lv_room (Nat.le_of_ble_eq_true rfl)) dX12_compare_170 ⟨(Nat.le_of_ble_eq_true rfl), (Nat.le_of_ble_eq_true rfl)⟩) hw hA (fun _ h => h.1) (fun w_12 H locs hp hw => ?_)
                    obtain ⟨_, hm, ⟨h9_v170, hPS, hh_v170⟩⟩ := hp
                    have zc_0 := li_0
                    have hM := hM.trans hm (by decide) (by decide)
                    have f_a0_X12_1 := hm.1 _ _ _ _ f_a0_X12_1 (by decide)
                    have f_a0_X12_11 := hm.1 _ _ _ _ f_a0_X12_11 (by decide)
                    have f_a0_X12_12 := hm.1 _ _ _ _ f_a0_X12_12 (by decide)
                    have hRT := hPS.rt
                    refine lv_iconst (v := 1) hx hb dX12_compare_173 (by decide) ?_
                    rw [hQ]
                    refine W.widen (k := 0) (n := 0) (Nat.le_refl _) (Nat.le_refl _) ?_
                    exact W.zret (v := 1) hx hb hr rfl (fun t ht hW => ⟨⟨1, w_12, rfl, ⟨(by decide), (by decide), hw.2.2.2.2, hM, ⟨v155m, (by omega), (by omega), f_a0_X12_12, (by have := li_1; omega), ⟨fun hz => absurd hz (by decide), fun _ => hPS.to (by omega) (by omega)⟩⟩⟩, by rw [ht]; exact hw.2.1, va_K.moved hW.alike hw.1, hw.2.2.1⟩, hw.2.2.2.1.F ht⟩) hw.2.2.2.1.2.2 dX12_compare_174
                  · simp only [fa_lt, fa_le, fa_eq, li_0] at c_158
                    have hRT := g_v155.1 c_158
                    refine lv_iconst (v := 0) hx hb dX12_compare_161 (by decide) ?_
                    rw [hQ]
                    refine W.widen (k := 0) (n := 0) (Nat.le_refl _) (Nat.le_refl _) ?_
                    exact W.zret (v := 0) hx hb hr rfl (fun t ht hW => ⟨⟨0, w_11, rfl, ⟨(by decide), (by decide), hw.2.2.2.2, hM, ⟨v155m, (by omega), (by omega), f_a0_X12_12, (by have := li_0; omega), ⟨fun _ => hRT, fun hz => absurd (by decide) hz⟩⟩⟩, by rw [ht]; exact hw.2.1, va_K.moved hW.alike hw.1, hw.2.2.1⟩, hw.2.2.2.1.F ht⟩) hw.2.2.2.1.2.2 dX12_compare_162
                refine lv_icmp_ne (tgt := 133) hx hb dX12_compare_118 (by decide) (fun c_118 => ?_) (fun c_118 => ?_)
                · simp only [fa_lt, fa_le, fa_eq, li_60] at c_118
                  refine lv_iload_n hx hb dX12_compare_133 rfl (lv_at hl 1 rfl) ?_
                  refine lv_bipush (v := 61) hx hb dX12_compare_134 (by decide) ?_
                  refine lv_icmp_ne (tgt := 143) hx hb dX12_compare_136 (by decide) (fun c_136 => ?_) (fun c_136 => ?_)
                  · simp only [fa_lt, fa_le, fa_eq, li_61] at c_136
                    refine lv_iload_n hx hb dX12_compare_143 rfl (lv_at hl 3 rfl) ?_
                    refine lv_if_eq (tgt := 151) hx hb dX12_compare_144 (by decide) (fun c_144 => ?_) (fun c_144 => ?_)
                    · simp only [fa_lt, fa_le, fa_eq, li_0] at c_144
                      refine lv_iconst (v := 4) hx hb dX12_compare_151 (by decide) ?_
                      exact J152 _ _ _ w_10 4 hw hM (by decide) (by decide) f_a0_X12_1 f_a0_X12_11 f_a0_X12_12 f_a0_X12_8 hPS (lv_sub hl [0, 1, 2, 3] rfl)
                    · simp only [fa_lt, fa_le, fa_eq, li_0] at c_144
                      refine lv_iconst (v := 3) hx hb dX12_compare_147 (by decide) ?_
                      refine lv_goto (tgt := 152) hx hb dX12_compare_148 (by decide) ?_
                      exact J152 _ _ _ w_10 3 hw hM (by decide) (by decide) f_a0_X12_1 f_a0_X12_11 f_a0_X12_12 f_a0_X12_8 hPS (lv_sub hl [0, 1, 2, 3] rfl)
                  · simp only [fa_lt, fa_le, fa_eq, li_61] at c_136
                    refine lv_iconst (v := 2) hx hb dX12_compare_139 (by decide) ?_
                    refine lv_goto (tgt := 152) hx hb dX12_compare_140 (by decide) ?_
                    exact J152 _ _ _ w_10 2 hw hM (by decide) (by decide) f_a0_X12_1 f_a0_X12_11 f_a0_X12_12 f_a0_X12_8 hPS (lv_sub hl [0, 1, 2, 3] rfl)
                · simp only [fa_lt, fa_le, fa_eq, li_60] at c_118
                  refine lv_iload_n hx hb dX12_compare_121 rfl (lv_at hl 3 rfl) ?_
                  refine lv_if_eq (tgt := 129) hx hb dX12_compare_122 (by decide) (fun c_122 => ?_) (fun c_122 => ?_)
                  · simp only [fa_lt, fa_le, fa_eq, li_0] at c_122
                    refine lv_iconst (v := 0) hx hb dX12_compare_129 (by decide) ?_
                    refine lv_goto (tgt := 152) hx hb dX12_compare_130 (by decide) ?_
                    exact J152 _ _ _ w_10 0 hw hM (by decide) (by decide) f_a0_X12_1 f_a0_X12_11 f_a0_X12_12 f_a0_X12_8 hPS (lv_sub hl [0, 1, 2, 3] rfl)
                  · simp only [fa_lt, fa_le, fa_eq, li_0] at c_122
                    refine lv_iconst (v := 1) hx hb dX12_compare_125 (by decide) ?_
                    refine lv_goto (tgt := 152) hx hb dX12_compare_126 (by decide) ?_
                    exact J152 _ _ _ w_10 1 hw hM (by decide) (by decide) f_a0_X12_1 f_a0_X12_11 f_a0_X12_12 f_a0_X12_8 hPS (lv_sub hl [0, 1, 2, 3] rfl)
              · simp only [fa_lt, fa_le, fa_eq, li_0] at c_110
                refine lv_iconst (v := 0) hx hb dX12_compare_113 (by decide) ?_
                rw [hQ]
                refine W.widen (k := 0) (n := 0) (Nat.le_refl _) (Nat.le_refl _) ?_
                exact W.zret (v := 0) hx hb hr rfl (fun t ht hW => ⟨⟨0, w_10, rfl, ⟨(by decide), (by decide), hw.2.2.2.2, hM, ⟨v107m, (by omega), (by omega), f_a0_X12_12, (by have := li_0; omega), ⟨fun _ => hRT, fun hz => absurd (by decide) hz⟩⟩⟩, by rw [ht]; exact hw.2.1, va_K.moved hW.alike hw.1, hw.2.2.1⟩, hw.2.2.2.1.F ht⟩) hw.2.2.2.1.2.2 dX12_compare_114
            refine lv_if_eq (tgt := 105) hx hb dX12_compare_92 (by decide) (fun _ => ?_) (fun c_92 => absurd c_92 (by decide))
            exact J105 _ _ _ w_3 0 v50 hw hM (by decide) (by decide) (by omega) (by omega) f_a0_X12_1 f_a0_X12_11 f_a0_X12_12 f_a0_X12_8 hPS (lv_sub hl [1, 2, 3, 0] rfl)
          · simp only [fa_lt, fa_le, fa_eq, li_61] at c_82
            refine lv_iconst (v := 1) hx hb dX12_compare_85 (by decide) ?_
            refine lv_goto (tgt := 90) hx hb dX12_compare_86 (by decide) ?_
            refine lv_istore_n (lv' := [(3, .int 1), (0, .ref a0), (1, .int v10), (2, .int v10n)]) hx hb dX12_compare_90 rfl hl (by decide) rfl (fun ls hl => ?_)
            refine lv_iload_n hx hb dX12_compare_91 rfl (lv_at hl 0 rfl) ?_
            have J105 : ∀ (H : Heap) (locs : List Loc) (ls : Array Slot) (w105 : va_W) (p105_l3 : Int32) (p105_m_a0_X12_8 : Int32), tW (dC, dI) tys κ B A s w105 H locs → Sm [(12, 8), (12, 9), (12, 10), (12, 12)] [55, 56] κ ws w105 → 0 ≤ p105_l3.toInt → p105_l3.toInt ≤ 1 → 1 ≤ p105_m_a0_X12_8.toInt → p105_m_a0_X12_8.toInt ≤ 401 → fld w105 a0 12 1 (.int v10q1) → fld w105 a0 12 11 (.int f1) → fld w105 a0 12 12 (.int v1m) → fld w105 a0 12 8 (.int p105_m_a0_X12_8) → PS κ w105 a0 f1.toInt.toNat pb pe b (h + 1) (φ + 2 * (v1m.toInt - f0.toInt) - 1) nc → lv_has ls 5 [(0, .ref a0), (1, .int v10), (2, .int v10n), (3, .int p105_l3)] → W p l e (headSpec (ws_u yX12_compare cX12_compare 5 (some .boolean)) ({ frames := 6, cells := 0, slots := 0, locals := 130 })).room s m ([.ref a0] : List Value).toArray below meth c H locs 0 0 QQ (F0 m 105 ls []) := by
              intro H locs ls w105 p105_l3 p105_m_a0_X12_8 hw hM l_p105_l3 h_p105_l3 l_p105_m_a0_X12_8 h_p105_m_a0_X12_8 f_a0_X12_1 f_a0_X12_11 f_a0_X12_12 f_a0_X12_8 hPS hl
              have hRT := hPS.rt
              refine lv_aload_n hx hb dX12_compare_105 rfl (lv_at hl 0 rfl) ?_
              refine lv_iload_n hx hb dX12_compare_106 rfl (lv_at hl 2 rfl) ?_
              refine t_calli (va_runV (As := [.int v10n]) (rest := []) ⟨hx, hb, hml, hown, hts⟩ (t_X12_makes l dC dI tys κ B w105 hw.2.2.2.2 a0 k_a0 v10n (by omega) (by omega) v1m (by omega) (by omega) f_a0_X12_12 H.size) (cwV 1 hts (gUV tw_1360 tw_1362 ts_4_8 tw_13 tw_1363) rfl rfl rfl (by decide +kernel) ⟨(Nat.le_of_ble_eq_true rfl), (Nat.le_of_ble_eq_true rfl)⟩) ⟨cPre.blind, t_recv hw (ci := 12) k_a0 rfl rfl, cPre.use hw.2.1 hw.1 hw.2.2.1 hE⟩ rfl rfl hl.1 rfl (lv_room (Nat.le_of_ble_eq_true rfl)) dX12_compare_107 ⟨(Nat.le_of_ble_eq_true rfl), (Nat.le_of_ble_eq_true rfl)⟩) hw hA (fun _ _ h => h.2.2.1) (fun v107 w_13 H locs hp hw => ?_)
              obtain ⟨l_v107, h_v107, _, hm, ⟨v107m, l_v107m, h_v107m, f_a0_X12_12, y_v107⟩⟩ := hp
              have hM := hM.trans hm (by decide) (by decide)
              have f_a0_X12_1 := hm.1 _ _ _ _ f_a0_X12_1 (by decide)
              have f_a0_X12_11 := hm.1 _ _ _ _ f_a0_X12_11 (by decide)
              have f_a0_X12_8 := hm.1 _ _ _ _ f_a0_X12_8 (by decide)
              have hPS := hPS.sm hm (by decide) (by decide)
              have hRT := hRT.sm hm (by decide) (by decide)
              refine lv_if_ne (tgt := 115) hx hb dX12_compare_110 (by decide) (fun c_110 => ?_) (fun c_110 => ?_)
              · simp only [fa_lt, fa_le, fa_eq, li_0] at c_110
                refine lv_iload_n hx hb dX12_compare_115 rfl (lv_at hl 1 rfl) ?_
                refine lv_bipush (v := 60) hx hb dX12_compare_116 (by decide) ?_
                have J152 : ∀ (H : Heap) (locs : List Loc) (ls : Array Slot) (w152 : va_W) (p152_s0 : Int32), tW (dC, dI) tys κ B A s w152 H locs → Sm [(12, 8), (12, 9), (12, 10), (12, 12)] [55, 56] κ ws w152 → 0 ≤ p152_s0.toInt → p152_s0.toInt ≤ 4 → fld w152 a0 12 1 (.int v10q1) → fld w152 a0 12 11 (.int f1) → fld w152 a0 12 12 (.int v107m) → fld w152 a0 12 8 (.int p105_m_a0_X12_8) → PS κ w152 a0 f1.toInt.toNat pb pe b (h + 1) (φ + 2 * (v1m.toInt - f0.toInt) - 1) nc → lv_has ls 5 [(0, .ref a0), (1, .int v10), (2, .int v10n), (3, .int p105_l3)] → W p l e (headSpec (ws_u yX12_compare cX12_compare 5 (some .boolean)) ({ frames := 6, cells := 0, slots := 0, locals := 130 })).room s m ([.ref a0] : List Value).toArray below meth c H locs 0 0 QQ (F0 m 152 ls [.int p152_s0]) := by
                  intro H locs ls w152 p152_s0 hw hM l_p152_s0 h_p152_s0 f_a0_X12_1 f_a0_X12_11 f_a0_X12_12 f_a0_X12_8 hPS hl
                  have hRT := hPS.rt
                  refine lv_istore (lv' := [(4, .int p152_s0), (0, .ref a0), (1, .int v10), (2, .int v10n), (3, .int p105_l3)]) hx hb dX12_compare_152 hl (by decide) rfl (fun ls hl => ?_)
                  refine lv_aload_n hx hb dX12_compare_154 rfl (lv_at hl 1 rfl) ?_
                  refine t_calli (va_runV (As := []) (rest := []) ⟨hx, hb, hml, hown, hts⟩ (t_X12_sum l dC dI tys κ B w152 hw.2.2.2.2 a0 k_a0 v107m (by omega) (by omega) f_a0_X12_12 f1 (by omega) (by omega) f_a0_X12_11 hPS (by omega) (by omega) (by omega) H.size) (cwV 0 hts (gUV tw_1347 tw_1349 ts_4_5 tw_13 tw_1350) rfl rfl rfl (by decide +kernel) ⟨(Nat.le_of_ble_eq_true rfl), (Nat.le_of_ble_eq_true rfl)⟩) ⟨cPre.blind, t_recv hw (ci := 12) k_a0 rfl rfl, cPre.use hw.2.1 hw.1 hw.2.2.1 hE⟩ rfl rfl hl.1 rfl (lv_room (Nat.le_of_ble_eq_true rfl)) dX12_compare_155 ⟨(Nat.le_of_ble_eq_true rfl), (Nat.le_of_ble_eq_true rfl)⟩) hw hA (fun _ _ h => h.2.2.1) (fun v155 w_14 H locs hp hw => ?_)
                  obtain ⟨l_v155, h_v155, _, hm, ⟨v155m, l_v155m, h_v155m, f_a0_X12_12, y_v155, g_v155⟩⟩ := hp
                  have hM := hM.trans hm (by decide) (by decide)
                  have f_a0_X12_1 := hm.1 _ _ _ _ f_a0_X12_1 (by decide)
                  have f_a0_X12_11 := hm.1 _ _ _ _ f_a0_X12_11 (by decide)
                  refine lv_if_ne (tgt := 163) hx hb dX12_compare_158 (by decide) (fun c_158 => ?_) (fun c_158 => ?_)
                  · simp only [fa_lt, fa_le, fa_eq, li_0] at c_158
                    have hPS := g_v155.2 c_158
                    have hRT := hPS.rt
                    refine lv_aload_n hx hb dX12_compare_163 rfl (lv_at hl 1 rfl) ?_
                    refine lv_bipush (v := 6) hx hb dX12_compare_164 (by decide) ?_
                    refine lv_iload hx hb dX12_compare_166 (lv_at hl 0 rfl) ?_
                    refine lv_iadd hx hb dX12_compare_168 ?_
                    refine lv_topi (fun v168 e_v168 => ?_)
                    have e_v168 : v168.toInt = 6 + p152_s0.toInt := ad_i e_v168 li_6 rfl (by omega) (by omega)
                    refine lv_iconst (v := 0) hx hb dX12_compare_169 (by decide) ?_
                    refine t_callv (va_runV (As := [.int v168, .int 0]) (rest := []) ⟨hx, hb, hml, hown, hts⟩ (t_X12_puts l dC dI tys κ B w_14 hw.2.2.2.2 a0 k_a0 v168 (by omega) (by omega) 0 (by decide) (by decide) f1 (by omega) (by omega) f_a0_X12_11 hPS (by omega) (by have := li_0; exact ⟨fun _ => by omega, fun _ => by omega, fun _ => by omega, fun _ _ _ => by omega⟩) H.size) (cwV 2 hts (gUV tw_1364 tw_1366 ts_4_9 tw_13 tw_1367) rfl rfl rfl (by decide +kernel) ⟨(Nat.le_of_ble_eq_true rfl), (Nat.le_of_ble_eq_true rfl)⟩) ⟨cPre.blind, t_recv hw (ci := 12) k_a0 rfl rfl, cPre.use hw.2.1 hw.1 hw.2.2.1 hE⟩ rfl rfl hl.1 rfl (lv_room (Nat.le_of_ble_eq_true rfl)) dX12_compare_170 ⟨(Nat.le_of_ble_eq_true rfl), (Nat.le_of_ble_eq_true rfl)⟩) hw hA (fun _ h => h.1) (fun w_15 H locs hp hw => ?_)
                    obtain ⟨_, hm, ⟨h9_v170, hPS, hh_v170⟩⟩ := hp
                    have zc_0 := li_0
                    have hM := hM.trans hm (by decide) (by decide)
                    have f_a0_X12_1 := hm.1 _ _ _ _ f_a0_X12_1 (by decide)
                    have f_a0_X12_11 := hm.1 _ _ _ _ f_a0_X12_11 (by decide)
                    have f_a0_X12_12 := hm.1 _ _ _ _ f_a0_X12_12 (by decide)
                    have hRT := hPS.rt
                    refine lv_iconst (v := 1) hx hb dX12_compare_173 (by decide) ?_
                    rw [hQ]
                    refine W.widen (k := 0) (n := 0) (Nat.le_refl _) (Nat.le_refl _) ?_
                    exact W.zret (v := 1) hx hb hr rfl (fun t ht hW => ⟨⟨1, w_15, rfl, ⟨(by decide), (by decide), hw.2.2.2.2, hM, ⟨v155m, (by omega), (by omega), f_a0_X12_12, (by have := li_1; omega), ⟨fun hz => absurd hz (by decide), fun _ => hPS.to (by omega) (by omega)⟩⟩⟩, by rw [ht]; exact hw.2.1, va_K.moved hW.alike hw.1, hw.2.2.1⟩, hw.2.2.2.1.F ht⟩) hw.2.2.2.1.2.2 dX12_compare_174
                  · simp only [fa_lt, fa_le, fa_eq, li_0] at c_158
                    have hRT := g_v155.1 c_158
                    refine lv_iconst (v := 0) hx hb dX12_compare_161 (by decide) ?_
                    rw [hQ]
                    refine W.widen (k := 0) (n := 0) (Nat.le_refl _) (Nat.le_refl _) ?_
                    exact W.zret (v := 0) hx hb hr rfl (fun t ht hW => ⟨⟨0, w_14, rfl, ⟨(by decide), (by decide), hw.2.2.2.2, hM, ⟨v155m, (by omega), (by omega), f_a0_X12_12, (by have := li_0; omega), ⟨fun _ => hRT, fun hz => absurd (by decide) hz⟩⟩⟩, by rw [ht]; exact hw.2.1, va_K.moved hW.alike hw.1, hw.2.2.1⟩, hw.2.2.2.1.F ht⟩) hw.2.2.2.1.2.2 dX12_compare_162
                refine lv_icmp_ne (tgt := 133) hx hb dX12_compare_118 (by decide) (fun c_118 => ?_) (fun c_118 => ?_)
                · simp only [fa_lt, fa_le, fa_eq, li_60] at c_118
                  refine lv_iload_n hx hb dX12_compare_133 rfl (lv_at hl 1 rfl) ?_
                  refine lv_bipush (v := 61) hx hb dX12_compare_134 (by decide) ?_
                  refine lv_icmp_ne (tgt := 143) hx hb dX12_compare_136 (by decide) (fun c_136 => ?_) (fun c_136 => ?_)
                  · simp only [fa_lt, fa_le, fa_eq, li_61] at c_136
                    refine lv_iload_n hx hb dX12_compare_143 rfl (lv_at hl 3 rfl) ?_
                    refine lv_if_eq (tgt := 151) hx hb dX12_compare_144 (by decide) (fun c_144 => ?_) (fun c_144 => ?_)
                    · simp only [fa_lt, fa_le, fa_eq, li_0] at c_144
                      refine lv_iconst (v := 4) hx hb dX12_compare_151 (by decide) ?_
                      exact J152 _ _ _ w_13 4 hw hM (by decide) (by decide) f_a0_X12_1 f_a0_X12_11 f_a0_X12_12 f_a0_X12_8 hPS (lv_sub hl [0, 1, 2, 3] rfl)
                    · simp only [fa_lt, fa_le, fa_eq, li_0] at c_144
                      refine lv_iconst (v := 3) hx hb dX12_compare_147 (by decide) ?_
                      refine lv_goto (tgt := 152) hx hb dX12_compare_148 (by decide) ?_
                      exact J152 _ _ _ w_13 3 hw hM (by decide) (by decide) f_a0_X12_1 f_a0_X12_11 f_a0_X12_12 f_a0_X12_8 hPS (lv_sub hl [0, 1, 2, 3] rfl)
                  · simp only [fa_lt, fa_le, fa_eq, li_61] at c_136
                    refine lv_iconst (v := 2) hx hb dX12_compare_139 (by decide) ?_
                    refine lv_goto (tgt := 152) hx hb dX12_compare_140 (by decide) ?_
                    exact J152 _ _ _ w_13 2 hw hM (by decide) (by decide) f_a0_X12_1 f_a0_X12_11 f_a0_X12_12 f_a0_X12_8 hPS (lv_sub hl [0, 1, 2, 3] rfl)
                · simp only [fa_lt, fa_le, fa_eq, li_60] at c_118
                  refine lv_iload_n hx hb dX12_compare_121 rfl (lv_at hl 3 rfl) ?_
                  refine lv_if_eq (tgt := 129) hx hb dX12_compare_122 (by decide) (fun c_122 => ?_) (fun c_122 => ?_)
                  · simp only [fa_lt, fa_le, fa_eq, li_0] at c_122
                    refine lv_iconst (v := 0) hx hb dX12_compare_129 (by decide) ?_
                    refine lv_goto (tgt := 152) hx hb dX12_compare_130 (by decide) ?_
                    exact J152 _ _ _ w_13 0 hw hM (by decide) (by decide) f_a0_X12_1 f_a0_X12_11 f_a0_X12_12 f_a0_X12_8 hPS (lv_sub hl [0, 1, 2, 3] rfl)
                  · simp only [fa_lt, fa_le, fa_eq, li_0] at c_122
                    refine lv_iconst (v := 1) hx hb dX12_compare_125 (by decide) ?_
                    refine lv_goto (tgt := 152) hx hb dX12_compare_126 (by decide) ?_
                    exact J152 _ _ _ w_13 1 hw hM (by decide) (by decide) f_a0_X12_1 f_a0_X12_11 f_a0_X12_12 f_a0_X12_8 hPS (lv_sub hl [0, 1, 2, 3] rfl)
              · simp only [fa_lt, fa_le, fa_eq, li_0] at c_110
                refine lv_iconst (v := 0) hx hb dX12_compare_113 (by decide) ?_
                rw [hQ]
                refine W.widen (k := 0) (n := 0) (Nat.le_refl _) (Nat.le_refl _) ?_
                exact W.zret (v := 0) hx hb hr rfl (fun t ht hW => ⟨⟨0, w_13, rfl, ⟨(by decide), (by decide), hw.2.2.2.2, hM, ⟨v107m, (by omega), (by omega), f_a0_X12_12, (by have := li_0; omega), ⟨fun _ => hRT, fun hz => absurd (by decide) hz⟩⟩⟩, by rw [ht]; exact hw.2.1, va_K.moved hW.alike hw.1, hw.2.2.1⟩, hw.2.2.2.1.F ht⟩) hw.2.2.2.1.2.2 dX12_compare_114
            refine lv_if_eq (tgt := 105) hx hb dX12_compare_92 (by decide) (fun c_92 => absurd c_92 (by decide)) (fun _ => ?_)
            refine lv_aload_n hx hb dX12_compare_95 rfl (lv_at hl 1 rfl) ?_
            refine lv_dup hx hb dX12_compare_96 rfl ?_
            refine t_getk (ci := 12) (C := RX12) (T := TX12) (N := 38) hx hb hts iX12 hown hw rfl 8 (by decide) (hts _ tw_1133) (fun _ h9 => h9) dX12_compare_97 f_a0_X12_8 ?_
            refine lv_iconst (v := 1) hx hb dX12_compare_100 (by decide) ?_
            refine lv_iadd hx hb dX12_compare_101 ?_
            refine lv_topi (fun v101 e_v101 => ?_)
            have e_v101 : v101.toInt = v50.toInt + 1 := ad_i e_v101 rfl li_1 (by omega) (by omega)
            refine t_put (ci := 12) (C := RX12) (T := TX12) (N := 38) (v := .int v101) hx hb hts iX12 tyX12 tyX12_ok nmX12 hown hw k_a0 rfl rfl rfl 8 (by decide) (hts _ tw_1133) (fun _ h9 => h9) rfl (tyX12_ok 8 (by decide)) rfl rfl (okV.int rfl (by omega) (by omega)) dX12_compare_102 (fun w_16 H locs hw u => ?_)
            have hM := hM.up1 u (by decide)
            have f_a0_X12_1 := u.1 _ _ _ _ f_a0_X12_1 (Or.inr (Or.inr (by decide)))
            have f_a0_X12_11 := u.1 _ _ _ _ f_a0_X12_11 (Or.inr (Or.inr (by decide)))
            have f_a0_X12_12 := u.1 _ _ _ _ f_a0_X12_12 (Or.inr (Or.inr (by decide)))
            have f_a0_X12_8 := u.2.2
            have f_a0_X12_0 := u.1 _ _ _ _ f_a0_X12_0 (Or.inr (Or.inr (by decide)))
            have hPS := hPS.sm (Sm.of1 u) (by decide) (by decide)
            have hRT := hRT.sm (Sm.of1 u) (by decide) (by decide)
            exact J105 _ _ _ w_16 1 v101 hw hM (by decide) (by decide) (by omega) (by omega) f_a0_X12_1 f_a0_X12_11 f_a0_X12_12 f_a0_X12_8 hPS (lv_sub hl [1, 2, 3, 0] rfl)
    refine lv_icmp_eq (tgt := 44) hx hb dX12_compare_22 (by decide) (fun c_22 => ?_) (fun c_22 => ?_)
    · simp only [fa_lt, fa_le, fa_eq, li_60] at c_22
      exact J44 _ _ _ w_2 hw hM f_a0_X12_1 f_a0_X12_11 f_a0_X12_12 f_a0_X12_8 (by omega) hPS (lv_sub hl [2, 1, 0] rfl)
    · simp only [fa_lt, fa_le, fa_eq, li_60] at c_22
      refine lv_iload_n hx hb dX12_compare_25 rfl (lv_at hl 1 rfl) ?_
      refine lv_bipush (v := 61) hx hb dX12_compare_26 (by decide) ?_
      refine lv_icmp_eq (tgt := 44) hx hb dX12_compare_28 (by decide) (fun c_28 => ?_) (fun c_28 => ?_)
      · simp only [fa_lt, fa_le, fa_eq, li_61] at c_28
        exact J44 _ _ _ w_2 hw hM f_a0_X12_1 f_a0_X12_11 f_a0_X12_12 f_a0_X12_8 (by omega) hPS (lv_sub hl [2, 1, 0] rfl)
      · simp only [fa_lt, fa_le, fa_eq, li_61] at c_28
        refine lv_iload_n hx hb dX12_compare_31 rfl (lv_at hl 1 rfl) ?_
        refine lv_bipush (v := 62) hx hb dX12_compare_32 (by decide) ?_
        refine lv_icmp_eq (tgt := 44) hx hb dX12_compare_34 (by decide) (fun c_34 => ?_) (fun c_34 => ?_)
        · simp only [fa_lt, fa_le, fa_eq, li_62] at c_34
          exact J44 _ _ _ w_2 hw hM f_a0_X12_1 f_a0_X12_11 f_a0_X12_12 f_a0_X12_8 (by omega) hPS (lv_sub hl [2, 1, 0] rfl)
        · simp only [fa_lt, fa_le, fa_eq, li_62] at c_34
          refine lv_aload_n hx hb dX12_compare_37 rfl (lv_at hl 2 rfl) ?_
          refine lv_iconst (v := 0) hx hb dX12_compare_38 (by decide) ?_
          refine lv_iload_n hx hb dX12_compare_39 rfl (lv_at hl 0 rfl) ?_
          refine t_calli (va_runV (As := [.int 0, .int v10n]) (rest := []) ⟨hx, hb, hml, hown, hts⟩ (t_X12_fails l dC dI tys κ B w_2 hw.2.2.2.2 a0 k_a0 0 (by decide) (by decide) v10n (by omega) (by omega) H.size) (cwV 2 hts (gUV tw_1288 tw_1290 ts_3_7 tw_13 tw_1291) rfl rfl rfl (by decide +kernel) ⟨(Nat.le_of_ble_eq_true rfl), (Nat.le_of_ble_eq_true rfl)⟩) ⟨cPre.blind, t_recv hw (ci := 12) k_a0 rfl rfl, cPre.use hw.2.1 hw.1 hw.2.2.1 hE⟩ rfl rfl hl.1 rfl (lv_room (Nat.le_of_ble_eq_true rfl)) dX12_compare_40 ⟨(Nat.le_of_ble_eq_true rfl), (Nat.le_of_ble_eq_true rfl)⟩) hw hA (fun _ _ h => h.2.2.1) (fun v40 w_17 H locs hp hw => ?_)
          obtain ⟨l_v40, h_v40, _, hm⟩ := hp
          have hM := hM.trans hm (by decide) (by decide)
          have f_a0_X12_11 := hm.1 _ _ _ _ f_a0_X12_11 (by decide)
          have f_a0_X12_12 := hm.1 _ _ _ _ f_a0_X12_12 (by decide)
          have f_a0_X12_1 := hm.1 _ _ _ _ f_a0_X12_1 (by decide)
          have f_a0_X12_8 := hm.1 _ _ _ _ f_a0_X12_8 (by decide)
          have hPS := hPS.sm hm (by decide) (by decide)
          have hRT := hRT.sm hm (by decide) (by decide)
          rw [hQ]
          refine W.widen (k := 0) (n := 0) (Nat.le_refl _) (Nat.le_refl _) ?_
          exact W.zret (v := v40) hx hb hr (nb_i (by omega) (by omega)) (fun t ht hW => ⟨⟨v40, w_17, rfl, ⟨(by omega), (by omega), hw.2.2.2.2, hM, ⟨v1m, (by omega), (by omega), f_a0_X12_12, (by omega), ⟨fun _ => hRT, fun hz => absurd (by omega) hz⟩⟩⟩, by rw [ht]; exact hw.2.1, va_K.moved hW.alike hw.1, hw.2.2.1⟩, hw.2.2.2.1.F ht⟩) hw.2.2.2.1.2.2 dX12_compare_43
  · simp only [fa_lt, fa_le, fa_eq, li_0] at c_4
    have hRT := g_v1.1 c_4
    refine lv_iconst (v := 0) hx hb dX12_compare_7 (by decide) ?_
    rw [hQ]
    refine W.widen (k := 0) (n := 0) (Nat.le_refl _) (Nat.le_refl _) ?_
    exact W.zret (v := 0) hx hb hr rfl (fun t ht hW => ⟨⟨0, w_1, rfl, ⟨(by decide), (by decide), hw.2.2.2.2, hM, ⟨v1m, (by omega), (by omega), f_a0_X12_12, (by have := li_0; omega), ⟨fun _ => hRT, fun hz => absurd (by decide) hz⟩⟩⟩, by rw [ht]; exact hw.2.1, va_K.moved hW.alike hw.1, hw.2.2.1⟩, hw.2.2.2.1.F ht⟩) hw.2.2.2.1.2.2 dX12_compare_8
set_option maxHeartbeats 4000000 in
set_option maxRecDepth 100000 in
theorem t_X12_opens (l : Launch) (dC : Nat → ClassId) (dI : Nat → Nat → Nat) (tys : List (ClassId × FieldType)) (κ : tK) (B : Nat) (ws : va_W) (hT : Ty κ tys B ws) (a0 : Nat) (k_a0 : κ a0 = some 12) (a1 : Int32) (l_a1 : 11 ≤ a1.toInt) (h_a1 : a1.toInt ≤ 91) (f0 : Int32) (l_f0 : 0 ≤ f0.toInt) (h_f0 : f0.toInt ≤ 10) (f_a0_X12_13 : fld ws a0 12 13 (.int f0)) (f1 : Int32) (l_f1 : 0 ≤ f1.toInt) (h_f1 : f1.toInt ≤ 400) (f_a0_X12_16 : fld ws a0 12 16 (.int f1)) {o : Nat → Int32} (hOS : OS κ ws a0 o f1.toInt f0.toInt) (h9 : f1.toInt ≤ 399) (ha : a1.toInt = 11 ∨ a1.toInt = 91) (sz : Nat) : Met l yX12_opens (ws_u yX12_opens cX12_opens 2 (some .boolean)) ({ frames := 1, cells := 0, slots := 0, locals := 22 }) (va_Pc [.ref a0, .int a1] (cPre (dC, dI) tys ws sz)) (va_Qi (fun (r : Int32) (w : va_W) => 0 ≤ r.toInt ∧ r.toInt ≤ 1 ∧ Ty κ tys B w ∧ Sm [(12, 9), (12, 13), (12, 16)] [60] κ ws w ∧ (∃ (xd : Int32) (xo : Int32), 0 ≤ xd.toInt ∧ xd.toInt ≤ 10 ∧ 0 ≤ xo.toInt ∧ xo.toInt ≤ 400 ∧ fld w a0 12 13 (.int xd) ∧ fld w a0 12 16 (.int xo) ∧ (r.toInt = 0 ∨ (xd.toInt = f0.toInt + 1 ∧ xo.toInt = f1.toInt + 1)) ∧ (¬ r.toInt = 0 → ∃ o9 : Nat → Int32, OS κ w a0 o9 xo.toInt xd.toInt))) (fun w t => cPost (dC, dI) tys w (va_A ws sz) t) (va_A ws sz)) 0 0 (va_A ws sz) := by
  refine Met.ofW (cc := cX12_opens) (maxL := 2) (ret := (some .boolean)) (by decide) rfl ?_
  intro p e s m args below meth c s₁ B0 hml hv
  obtain ⟨rfl, hsz, hP, hK, hD0, hE⟩ := hv
  have hx := B0.exec
  have hb := B0.bytes
  have hr := B0.returns
  have hts0 := atoms_spec (ws := ws_u yX12_opens cX12_opens 2 (some .boolean)) B0.pre
  have hts : ∀ w ∈ gT, w.before _ s = true := fun w h => hts0 w (List.mem_cons_of_mem _ h)
  have hown : s.vm.findClass RX12 = some m.cls := findClass_of_methodNamed B0.named
  have hlocks := B0.notSynchronized
  subst hsz
  have hD := hD0.self (sz := s.heap.size)
  generalize hAe : va_A ws s.heap.size = A at hD ⊢
  have hA : ∀ q : Nat, s.heap.size ≤ q → A q := fun q h => by rw [← hAe]; exact Or.inr h
  have hw : tW (dC, dI) tys κ B A s ws s.heap [] := ⟨hK, hP, hD, va_S.rf, hT⟩
  have hM : Sm [(12, 9), (12, 13), (12, 16)] [60] κ ws ws := Sm.rf
  clear hP hK hD hD0 hts0
  have hl := lv_entry ([.ref a0, .int a1]) (n := 2) (Nat.le_of_ble_eq_true rfl)
  rw [lg_entry_eq]
  generalize (lg_sl ([.ref a0, .int a1]) ++ List.replicate (2 - (lg_sl ([.ref a0, .int a1])).length) Slot.unset).toArray = ls at hl ⊢
  have hl : lv_has ls 2 [(0, .ref a0), (1, .int a1)] := hl
  refine t_start (fun QQ hQ => ?_)
  refine lv_aload_n hx hb dX12_opens_0 rfl (lv_at hl 0 rfl) ?_
  refine t_getk (ci := 12) (C := RX12) (T := TX12) (N := 38) hx hb hts iX12 hown hw rfl 13 (by decide) (hts _ tw_1138) (fun _ h9 => h9) dX12_opens_1 f_a0_X12_13 ?_
  refine lv_bipush (v := 10) hx hb dX12_opens_4 (by decide) ?_
  refine lv_icmp_ne (tgt := 19) hx hb dX12_opens_6 (by decide) (fun c_6 => ?_) (fun c_6 => ?_)
  · simp only [fa_lt, fa_le, fa_eq, li_10] at c_6
    refine lv_aload_n hx hb dX12_opens_19 rfl (lv_at hl 0 rfl) ?_
    refine lv_dup hx hb dX12_opens_20 rfl ?_
    refine t_getk (ci := 12) (C := RX12) (T := TX12) (N := 38) hx hb hts iX12 hown hw rfl 13 (by decide) (hts _ tw_1138) (fun _ h9 => h9) dX12_opens_21 f_a0_X12_13 ?_
    refine lv_iconst (v := 1) hx hb dX12_opens_24 (by decide) ?_
    refine lv_iadd hx hb dX12_opens_25 ?_
    refine lv_topi (fun v25 e_v25 => ?_)
    have e_v25 : v25.toInt = f0.toInt + 1 := ad_i e_v25 rfl li_1 (by omega) (by omega)
    refine t_put (ci := 12) (C := RX12) (T := TX12) (N := 38) (v := .int v25) hx hb hts iX12 tyX12 tyX12_ok nmX12 hown hw k_a0 rfl rfl rfl 13 (by decide) (hts _ tw_1138) (fun _ h9 => h9) rfl (tyX12_ok 13 (by decide)) rfl rfl (okV.int rfl (by omega) (by omega)) dX12_opens_26 (fun w_1 H locs hw u => ?_)
    have hM := hM.up1 u (by decide)
    have f_a0_X12_13 := u.2.2
    have f_a0_X12_16 := u.1 _ _ _ _ f_a0_X12_16 (Or.inr (Or.inr (by decide)))
    have hOS := hOS.sm (Sm.of1 u) (by decide) (by decide)
    refine lv_aload_n hx hb dX12_opens_29 rfl (lv_at hl 0 rfl) ?_
    refine t_getr (k1 := 60) (ci := 12) (C := RX12) (T := TX12) (N := 38) hx hb hts iX12 hown hw k_a0 rfl rfl rfl 15 (by decide) (hts _ tw_1140) (fun _ h9 => h9) dX12_opens_30 rfl (fun v30 k_v30 f_a0_X12_15 => ?_)
    refine lv_aload_n hx hb dX12_opens_33 rfl (lv_at hl 0 rfl) ?_
    refine t_getk (ci := 12) (C := RX12) (T := TX12) (N := 38) hx hb hts iX12 hown hw rfl 16 (by decide) (hts _ tw_1141) (fun _ h9 => h9) dX12_opens_34 f_a0_X12_16 ?_
    refine lv_iload_n hx hb dX12_opens_37 rfl (lv_at hl 1 rfl) ?_
    refine t_iast hx hb hw k_v30 rfl rfl (by omega) (show f1.toInt < 400 by omega) (i32_lo _) (i32_hi _) dX12_opens_38 (fun w_2 H locs hw u => ?_)
    have hM := hM.up3 u k_v30 (by decide)
    have f_a0_X12_13 := u.1 _ _ _ _ f_a0_X12_13
    have f_a0_X12_16 := u.1 _ _ _ _ f_a0_X12_16
    have f_a0_X12_15 := u.1 _ _ _ _ f_a0_X12_15
    have hOS := hOS.push (op' := f1.toInt + 1) (dp' := f0.toInt + 1) hw.2.2.1 f_a0_X12_15 u (by omega) rfl (by omega)
    refine lv_aload_n hx hb dX12_opens_39 rfl (lv_at hl 0 rfl) ?_
    refine lv_dup hx hb dX12_opens_40 rfl ?_
    refine t_getk (ci := 12) (C := RX12) (T := TX12) (N := 38) hx hb hts iX12 hown hw rfl 16 (by decide) (hts _ tw_1141) (fun _ h9 => h9) dX12_opens_41 f_a0_X12_16 ?_
    refine lv_iconst (v := 1) hx hb dX12_opens_44 (by decide) ?_
    refine lv_iadd hx hb dX12_opens_45 ?_
    refine lv_topi (fun v45 e_v45 => ?_)
    have e_v45 : v45.toInt = f1.toInt + 1 := ad_i e_v45 rfl li_1 (by omega) (by omega)
    refine t_put (ci := 12) (C := RX12) (T := TX12) (N := 38) (v := .int v45) hx hb hts iX12 tyX12 tyX12_ok nmX12 hown hw k_a0 rfl rfl rfl 16 (by decide) (hts _ tw_1141) (fun _ h9 => h9) rfl (tyX12_ok 16 (by decide)) rfl rfl (okV.int rfl (by omega) (by omega)) dX12_opens_46 (fun w_3 H locs hw u => ?_)
    have hM := hM.up1 u (by decide)
    have f_a0_X12_13 := u.1 _ _ _ _ f_a0_X12_13 (Or.inr (Or.inr (by decide)))
    have f_a0_X12_16 := u.2.2
    have f_a0_X12_15 := u.1 _ _ _ _ f_a0_X12_15 (Or.inr (Or.inr (by decide)))
    have hOS := hOS.sm (Sm.of1 u) (by decide) (by decide)
    refine lv_iconst (v := 1) hx hb dX12_opens_49 (by decide) ?_
    rw [hQ]
    refine W.widen (k := 0) (n := 0) (Nat.le_refl _) (Nat.le_refl _) ?_
    exact W.zret (v := 1) hx hb hr rfl (fun t ht hW => ⟨⟨1, w_3, rfl, ⟨(by decide), (by decide), hw.2.2.2.2, hM, ⟨v25, v45, (by omega), (by omega), (by omega), (by omega), f_a0_X12_13, f_a0_X12_16, (by have := li_1; omega), (fun _ => ⟨_, hOS.to (by omega) (by omega)⟩)⟩⟩, by rw [ht]; exact hw.2.1, va_K.moved hW.alike hw.1, hw.2.2.1⟩, hw.2.2.2.1.F ht⟩) hw.2.2.2.1.2.2 dX12_opens_50
  · simp only [fa_lt, fa_le, fa_eq, li_10] at c_6
    refine lv_aload_n hx hb dX12_opens_9 rfl (lv_at hl 0 rfl) ?_
    refine lv_iconst (v := 2) hx hb dX12_opens_10 (by decide) ?_
    refine lv_aload_n hx hb dX12_opens_11 rfl (lv_at hl 0 rfl) ?_
    refine t_geti (ci := 12) (C := RX12) (T := TX12) (N := 38) hx hb hts iX12 hown hw k_a0 rfl rfl rfl 8 (by decide) (hts _ tw_1133) (fun _ h9 => h9) dX12_opens_12 rfl (fun v12 l_v12 h_v12 f_a0_X12_8 => ?_)
    have l_v12 : 0 ≤ v12.toInt := l_v12
    have h_v12 : v12.toInt ≤ 401 := h_v12
    refine t_calli (va_runV (As := [.int 2, .int v12]) (rest := []) ⟨hx, hb, hml, hown, hts⟩ (t_X12_fails l dC dI tys κ B ws hw.2.2.2.2 a0 k_a0 2 (by decide) (by decide) v12 (by omega) (by omega) s.heap.size) (cwV 2 hts (gUV tw_1288 tw_1290 ts_3_7 tw_13 tw_1291) rfl rfl rfl (by decide +kernel) ⟨(Nat.le_of_ble_eq_true rfl), (Nat.le_of_ble_eq_true rfl)⟩) ⟨cPre.blind, t_recv hw (ci := 12) k_a0 rfl rfl, cPre.use hw.2.1 hw.1 hw.2.2.1 hE⟩ rfl rfl hl.1 rfl (lv_room (Nat.le_of_ble_eq_true rfl)) dX12_opens_15 ⟨(Nat.le_of_ble_eq_true rfl), (Nat.le_of_ble_eq_true rfl)⟩) hw hA (fun _ _ h => h.2.2.1) (fun v15 w_4 H locs hp hw => ?_)
    obtain ⟨l_v15, h_v15, _, hm⟩ := hp
    have hM := hM.trans hm (by decide) (by decide)
    have f_a0_X12_13 := hm.1 _ _ _ _ f_a0_X12_13 (by decide)
    have f_a0_X12_16 := hm.1 _ _ _ _ f_a0_X12_16 (by decide)
    have f_a0_X12_8 := hm.1 _ _ _ _ f_a0_X12_8 (by decide)
    have hOS := hOS.sm hm (by decide) (by decide)
    rw [hQ]
    refine W.widen (k := 0) (n := 0) (Nat.le_refl _) (Nat.le_refl _) ?_
    exact W.zret (v := v15) hx hb hr (nb_i (by omega) (by omega)) (fun t ht hW => ⟨⟨v15, w_4, rfl, ⟨(by omega), (by omega), hw.2.2.2.2, hM, ⟨f0, f1, (by omega), (by omega), (by omega), (by omega), f_a0_X12_13, f_a0_X12_16, (by omega), (fun hz => absurd (by omega) hz)⟩⟩, by rw [ht]; exact hw.2.1, va_K.moved hW.alike hw.1, hw.2.2.1⟩, hw.2.2.2.1.F ht⟩) hw.2.2.2.1.2.2 dX12_opens_18
set_option maxHeartbeats 4000000 in
set_option maxRecDepth 100000 in
theorem t_X12_fact (l : Launch) (dC : Nat → ClassId) (dI : Nat → Nat → Nat) (tys : List (ClassId × FieldType)) (κ : tK) (B : Nat) (ws : va_W) (hT : Ty κ tys B ws) (a0 : Nat) (k_a0 : κ a0 = some 12) (f0 : Int32) (l_f0 : 0 ≤ f0.toInt) (h_f0 : f0.toInt ≤ 60) (f_a0_X12_12 : fld ws a0 12 12 (.int f0)) (f1 : Int32) (l_f1 : 0 ≤ f1.toInt) (h_f1 : f1.toInt ≤ 5) (f_a0_X12_11 : fld ws a0 12 11 (.int f1)) (f2 : Int32) (l_f2 : 0 ≤ f2.toInt) (h_f2 : f2.toInt ≤ 400) (f_a0_X12_16 : fld ws a0 12 16 (.int f2)) (f3 : Int32) (l_f3 : 0 ≤ f3.toInt) (h_f3 : f3.toInt ≤ 10) (f_a0_X12_13 : fld ws a0 12 13 (.int f3)) {o : Nat → Int32} (hOS : OS κ ws a0 o f2.toInt f3.toInt) {pb pe b h φ nc : Int} (hPS : PS κ ws a0 f1.toInt.toNat pb pe b h φ nc) (hφ : φ ≤ 2 * f0.toInt + 250) (h0 : 0 ≤ h) (hh : h ≤ f0.toInt) (hop : f2.toInt + 10 - f3.toInt ≤ 399) (sz : Nat) : Met l yX12_fact (ws_u yX12_fact cX12_fact 3 (some .boolean)) ({ frames := 7, cells := 0, slots := 0, locals := 154 }) (va_Pc [.ref a0] (cPre (dC, dI) tys ws sz)) (va_Qi (fun (r : Int32) (w : va_W) => 0 ≤ r.toInt ∧ r.toInt ≤ 1 ∧ Ty κ tys B w ∧ Sm [(12, 8), (12, 9), (12, 10), (12, 12), (12, 13), (12, 16)] [55, 56, 60] κ ws w ∧ (∃ (xm : Int32) (xo : Int32) (xd : Int32), 0 ≤ xm.toInt ∧ xm.toInt ≤ 60 ∧ 0 ≤ xo.toInt ∧ xo.toInt ≤ 400 ∧ 0 ≤ xd.toInt ∧ xd.toInt ≤ 10 ∧ fld w a0 12 12 (.int xm) ∧ fld w a0 12 16 (.int xo) ∧ fld w a0 12 13 (.int xd) ∧ (r.toInt = 0 ∨ (f0.toInt + 3 ≤ xm.toInt ∧ xo.toInt - xd.toInt = f2.toInt - f3.toInt ∧ f2.toInt ≤ xo.toInt)) ∧ Alt r (RT κ w a0) (PS κ w a0 f1.toInt.toNat pb pe b (h + 1) (φ + 2 * (xm.toInt - f0.toInt) - 3) nc ∧ ∃ o9 : Nat → Int32, OS κ w a0 o9 xo.toInt xd.toInt))) (fun w t => cPost (dC, dI) tys w (va_A ws sz) t) (va_A ws sz)) 0 0 (va_A ws sz) := by
  refine Met.ofW (cc := cX12_fact) (maxL := 3) (ret := (some .boolean)) (by decide) rfl ?_
  intro p e s m args below meth c s₁ B0 hml hv
  obtain ⟨rfl, hsz, hP, hK, hD0, hE⟩ := hv
  have hx := B0.exec
  have hb := B0.bytes
  have hr := B0.returns
  have hts0 := atoms_spec (ws := ws_u yX12_fact cX12_fact 3 (some .boolean)) B0.pre
  have hts : ∀ w ∈ gT, w.before _ s = true := fun w h => hts0 w (List.mem_cons_of_mem _ h)
  have hown : s.vm.findClass RX12 = some m.cls := findClass_of_methodNamed B0.named
  have hlocks := B0.notSynchronized
  subst hsz
  have hD := hD0.self (sz := s.heap.size)
  generalize hAe : va_A ws s.heap.size = A at hD ⊢
  have hA : ∀ q : Nat, s.heap.size ≤ q → A q := fun q h => by rw [← hAe]; exact Or.inr h
  have hw : tW (dC, dI) tys κ B A s ws s.heap [] := ⟨hK, hP, hD, va_S.rf, hT⟩
  have hM : Sm [(12, 8), (12, 9), (12, 10), (12, 12), (12, 13), (12, 16)] [55, 56, 60] κ ws ws := Sm.rf
  clear hP hK hD hD0 hts0
  have hl := lv_entry ([.ref a0]) (n := 3) (Nat.le_of_ble_eq_true rfl)
  rw [lg_entry_eq]
  generalize (lg_sl ([.ref a0]) ++ List.replicate (3 - (lg_sl ([.ref a0])).length) Slot.unset).toArray = ls at hl ⊢
  have hl : lv_has ls 3 [(0, .ref a0)] := hl
  refine t_start (fun QQ hQ => ?_)
  have hRT := hPS.rt
  refine lv_iconst (v := 1) hx hb dX12_fact_0 (by decide) ?_
  refine lv_istore_n (lv' := [(1, .int 1), (0, .ref a0)]) hx hb dX12_fact_1 rfl hl (by decide) rfl (fun ls hl => ?_)
  have J2 : ∀ (n : Nat) (H : Heap) (locs : List Loc) (ls : Array Slot), (∃ (w2 : va_W) (p2_l1 : Int32) (p2_m_a0_X12_13 : Int32) (p2_m_a0_X12_16 : Int32), tW (dC, dI) tys κ B A s w2 H locs ∧ Sm [(12, 8), (12, 9), (12, 10), (12, 12), (12, 13), (12, 16)] [55, 56, 60] κ ws w2 ∧ 0 ≤ p2_l1.toInt ∧ p2_l1.toInt ≤ 1 ∧ 0 ≤ p2_m_a0_X12_13.toInt ∧ p2_m_a0_X12_13.toInt ≤ 10 ∧ 0 ≤ p2_m_a0_X12_16.toInt ∧ p2_m_a0_X12_16.toInt ≤ 400 ∧ fld w2 a0 12 11 (.int f1) ∧ fld w2 a0 12 12 (.int f0) ∧ fld w2 a0 12 13 (.int p2_m_a0_X12_13) ∧ fld w2 a0 12 16 (.int p2_m_a0_X12_16) ∧ p2_m_a0_X12_16.toInt - p2_m_a0_X12_13.toInt = f2.toInt - f3.toInt ∧ f2.toInt ≤ p2_m_a0_X12_16.toInt ∧ (∃ o9 : Nat → Int32, OS κ w2 a0 o9 p2_m_a0_X12_16.toInt p2_m_a0_X12_13.toInt) ∧ PS κ w2 a0 f1.toInt.toNat pb pe b h φ nc ∧ lv_has ls 3 [(0, .ref a0), (1, .int p2_l1)] ∧ (2 * (10 - p2_m_a0_X12_13.toInt) + p2_l1.toInt).toNat = n) → W p l e (headSpec (ws_u yX12_fact cX12_fact 3 (some .boolean)) ({ frames := 7, cells := 0, slots := 0, locals := 154 })).room s m ([.ref a0] : List Value).toArray below meth c H locs 0 0 QQ (F0 m 2 ls []) := by
    refine loopT _ ?_
    intro n_2 H locs ls hI ih_2
    obtain ⟨w2, p2_l1, p2_m_a0_X12_13, p2_m_a0_X12_16, hw, hM, l_p2_l1, h_p2_l1, l_p2_m_a0_X12_13, h_p2_m_a0_X12_13, l_p2_m_a0_X12_16, h_p2_m_a0_X12_16, f_a0_X12_11, f_a0_X12_12, f_a0_X12_13, f_a0_X12_16, li_2_0, li_2_1, hOSx, hPS, hl, hn_2⟩ := hI
    obtain ⟨o9, hOS⟩ := hOSx
    have hRT := hPS.rt
    refine lv_iload_n hx hb dX12_fact_2 rfl (lv_at hl 1 rfl) ?_
    refine lv_if_eq (tgt := 75) hx hb dX12_fact_3 (by decide) (fun c_3 => ?_) (fun c_3 => ?_)
    · simp only [fa_lt, fa_le, fa_eq, li_0] at c_3
      refine lv_aload_n hx hb dX12_fact_75 rfl (lv_at hl 0 rfl) ?_
      refine t_calli (va_runV (As := []) (rest := []) ⟨hx, hb, hml, hown, hts⟩ (t_X12_compare l dC dI tys κ B w2 hw.2.2.2.2 a0 k_a0 f0 (by omega) (by omega) f_a0_X12_12 f1 (by omega) (by omega) f_a0_X12_11 hPS (by omega) (by omega) (by omega) H.size) (cwV 0 hts (gUV tw_1399 tw_1401 ts_4_15 tw_13 tw_1402) rfl rfl rfl (by decide +kernel) ⟨(Nat.le_of_ble_eq_true rfl), (Nat.le_of_ble_eq_true rfl)⟩) ⟨cPre.blind, t_recv hw (ci := 12) k_a0 rfl rfl, cPre.use hw.2.1 hw.1 hw.2.2.1 hE⟩ rfl rfl hl.1 rfl (lv_room (Nat.le_of_ble_eq_true rfl)) dX12_fact_76 ⟨(Nat.le_of_ble_eq_true rfl), (Nat.le_of_ble_eq_true rfl)⟩) hw hA (fun _ _ h => h.2.2.1) (fun v76 w_1 H locs hp hw => ?_)
      obtain ⟨l_v76, h_v76, _, hm, ⟨v76m, l_v76m, h_v76m, f_a0_X12_12, y_v76, g_v76⟩⟩ := hp
      have hM := hM.trans hm (by decide) (by decide)
      have f_a0_X12_11 := hm.1 _ _ _ _ f_a0_X12_11 (by decide)
      have f_a0_X12_13 := hm.1 _ _ _ _ f_a0_X12_13 (by decide)
      have f_a0_X12_16 := hm.1 _ _ _ _ f_a0_X12_16 (by decide)
      have hOS := hOS.sm hm (by decide) (by decide)
      rw [hQ]
      refine W.widen (k := 0) (n := 0) (Nat.le_refl _) (Nat.le_refl _) ?_
      exact W.zret (v := v76) hx hb hr (nb_i (by omega) (by omega)) (fun t ht hW => ⟨⟨v76, w_1, rfl, ⟨(by omega), (by omega), hw.2.2.2.2, hM, ⟨v76m, p2_m_a0_X12_16, p2_m_a0_X12_13, (by omega), (by omega), (by omega), (by omega), (by omega), (by omega), f_a0_X12_12, f_a0_X12_16, f_a0_X12_13, (by omega), ⟨g_v76.1, fun hz => ⟨g_v76.2 hz, _, hOS⟩⟩⟩⟩, by rw [ht]; exact hw.2.1, va_K.moved hW.alike hw.1, hw.2.2.1⟩, hw.2.2.2.1.F ht⟩) hw.2.2.2.1.2.2 dX12_fact_79
    · simp only [fa_lt, fa_le, fa_eq, li_0] at c_3
      refine lv_iconst (v := 0) hx hb dX12_fact_6 (by decide) ?_
      refine lv_istore_n (lv' := [(1, .int 0), (0, .ref a0)]) hx hb dX12_fact_7 rfl hl (by decide) rfl (fun ls hl => ?_)
      refine lv_aload_n hx hb dX12_fact_8 rfl (lv_at hl 1 rfl) ?_
      obtain ⟨u_v9q0, q_v9q0, f_a0_X12_8⟩ := t_peek (k := 8) hw.2.2.2.2 k_a0 rfl (by decide)
      obtain ⟨v9q0, rfl, l_v9q0, h_v9q0⟩ := q_v9q0.geti (lo := 0) (hi := 401) rfl
      obtain ⟨u_v9q1, q_v9q1, f_a0_X12_1⟩ := t_peek (k := 1) hw.2.2.2.2 k_a0 rfl (by decide)
      obtain ⟨v9q1, rfl, l_v9q1, h_v9q1⟩ := q_v9q1.geti (lo := 0) (hi := 400) rfl
      refine t_calli (va_runV (As := []) (rest := []) ⟨hx, hb, hml, hown, hts⟩ (t_X12_see l dC dI tys κ B w2 hw.2.2.2.2 a0 k_a0 v9q0 (by omega) (by omega) f_a0_X12_8 v9q1 (by omega) (by omega) f_a0_X12_1 H.size) (cwV 0 hts (gUV tw_1264 tw_1266 ts_3_3 tw_13 tw_1267) rfl rfl rfl (by decide +kernel) ⟨(Nat.le_of_ble_eq_true rfl), (Nat.le_of_ble_eq_true rfl)⟩) ⟨cPre.blind, t_recv hw (ci := 12) k_a0 rfl rfl, cPre.use hw.2.1 hw.1 hw.2.2.1 hE⟩ rfl rfl hl.1 rfl (lv_room (Nat.le_of_ble_eq_true rfl)) dX12_fact_9 ⟨(Nat.le_of_ble_eq_true rfl), (Nat.le_of_ble_eq_true rfl)⟩) hw hA (fun _ _ h => h.2.2.1) (fun v9 w_2 H locs hp hw => ?_)
      obtain ⟨l_v9, h_v9, _, hm, ⟨v9n, l_v9n, h_v9n, f_a0_X12_8, y_v9⟩⟩ := hp
      have hM := hM.trans hm (by decide) (by decide)
      have f_a0_X12_11 := hm.1 _ _ _ _ f_a0_X12_11 (by decide)
      have f_a0_X12_12 := hm.1 _ _ _ _ f_a0_X12_12 (by decide)
      have f_a0_X12_13 := hm.1 _ _ _ _ f_a0_X12_13 (by decide)
      have f_a0_X12_16 := hm.1 _ _ _ _ f_a0_X12_16 (by decide)
      have f_a0_X12_1 := hm.1 _ _ _ _ f_a0_X12_1 (by decide)
      have hPS := hPS.sm hm (by decide) (by decide)
      have hRT := hRT.sm hm (by decide) (by decide)
      have hOS := hOS.sm hm (by decide) (by decide)
      refine lv_istore_n (lv' := [(2, .int v9), (1, .int 0), (0, .ref a0)]) hx hb dX12_fact_12 rfl hl (by decide) rfl (fun ls hl => ?_)
      refine lv_aload_n hx hb dX12_fact_13 rfl (lv_at hl 2 rfl) ?_
      refine lv_ldc2 (v := 7237492) hx hb hown (hts _ tw_1394) dX12_fact_14 ?_
      refine lv_topl (fun v14 e_v14 => ?_)
      have t_v14 : v14.toInt = 7237492 := by rw [e_v14]; decide
      refine t_calli (va_runV (As := [.long v14]) (rest := []) ⟨hx, hb, hml, hown, hts⟩ (t_X12_isWord l dC dI tys κ B w_2 hw.2.2.2.2 a0 k_a0 v14 v9n (by omega) (by omega) f_a0_X12_8 v9q1 (by omega) (by omega) f_a0_X12_1 H.size) (cwV 1 hts (gUV tw_1273 tw_1275 ts_3_5 tw_13 tw_1276) rfl rfl rfl (by decide +kernel) ⟨(Nat.le_of_ble_eq_true rfl), (Nat.le_of_ble_eq_true rfl)⟩) ⟨cPre.blind, t_recv hw (ci := 12) k_a0 rfl rfl, cPre.use hw.2.1 hw.1 hw.2.2.1 hE⟩ rfl rfl hl.1 rfl (lv_room (Nat.le_of_ble_eq_true rfl)) dX12_fact_17 ⟨(Nat.le_of_ble_eq_true rfl), (Nat.le_of_ble_eq_true rfl)⟩) hw hA (fun _ _ h => h.2.2.1) (fun v17 w_3 H locs hp hw => ?_)
      obtain ⟨l_v17, h_v17, _, hm, ⟨v17n, l_v17n, h_v17n, f_a0_X12_8, y_v17⟩⟩ := hp
      have hM := hM.trans hm (by decide) (by decide)
      have f_a0_X12_11 := hm.1 _ _ _ _ f_a0_X12_11 (by decide)
      have f_a0_X12_12 := hm.1 _ _ _ _ f_a0_X12_12 (by decide)
      have f_a0_X12_13 := hm.1 _ _ _ _ f_a0_X12_13 (by decide)
      have f_a0_X12_16 := hm.1 _ _ _ _ f_a0_X12_16 (by decide)
      have f_a0_X12_1 := hm.1 _ _ _ _ f_a0_X12_1 (by decide)
      have hPS := hPS.sm hm (by decide) (by decide)
      have hRT := hRT.sm hm (by decide) (by decide)
      have hOS := hOS.sm hm (by decide) (by decide)
      refine lv_if_eq (tgt := 43) hx hb dX12_fact_20 (by decide) (fun c_20 => ?_) (fun c_20 => ?_)
      · simp only [fa_lt, fa_le, fa_eq, li_0] at c_20
        refine lv_iload_n hx hb dX12_fact_43 rfl (lv_at hl 0 rfl) ?_
        refine lv_bipush (v := 91) hx hb dX12_fact_44 (by decide) ?_
        refine lv_icmp_ne (tgt := 72) hx hb dX12_fact_46 (by decide) (fun c_46 => ?_) (fun c_46 => ?_)
        · simp only [fa_lt, fa_le, fa_eq, li_91] at c_46
          refine lv_goto (tgt := 2) hx hb dX12_fact_72 (by decide) ?_
          exact ih_2 _ _ _ _ (by have := li_0; omega) ⟨w_3, 0, p2_m_a0_X12_13, p2_m_a0_X12_16, hw, hM, (by decide), (by decide), (by omega), (by omega), (by omega), (by omega), f_a0_X12_11, f_a0_X12_12, f_a0_X12_13, f_a0_X12_16, (by have := li_0; omega), (by have := li_0; omega), ⟨_, hOS⟩, hPS, (lv_sub hl [2, 1] rfl), rfl⟩
        · simp only [fa_lt, fa_le, fa_eq, li_91] at c_46
          refine lv_aload_n hx hb dX12_fact_49 rfl (lv_at hl 2 rfl) ?_
          refine lv_bipush (v := 91) hx hb dX12_fact_50 (by decide) ?_
          refine t_calli (va_runV (As := [.int 91]) (rest := []) ⟨hx, hb, hml, hown, hts⟩ (t_X12_opens l dC dI tys κ B w_3 hw.2.2.2.2 a0 k_a0 91 (by decide) (by decide) p2_m_a0_X12_13 (by omega) (by omega) f_a0_X12_13 p2_m_a0_X12_16 (by omega) (by omega) f_a0_X12_16 hOS (by omega) (by have := li_91; omega) H.size) (cwV 1 hts (gUV tw_1395 tw_1397 ts_4_14 tw_13 tw_1398) rfl rfl rfl (by decide +kernel) ⟨(Nat.le_of_ble_eq_true rfl), (Nat.le_of_ble_eq_true rfl)⟩) ⟨cPre.blind, t_recv hw (ci := 12) k_a0 rfl rfl, cPre.use hw.2.1 hw.1 hw.2.2.1 hE⟩ rfl rfl hl.1 rfl (lv_room (Nat.le_of_ble_eq_true rfl)) dX12_fact_52 ⟨(Nat.le_of_ble_eq_true rfl), (Nat.le_of_ble_eq_true rfl)⟩) hw hA (fun _ _ h => h.2.2.1) (fun v52 w_4 H locs hp hw => ?_)
          obtain ⟨l_v52, h_v52, _, hm, ⟨v52d, v52o, l_v52d, h_v52d, l_v52o, h_v52o, f_a0_X12_13, f_a0_X12_16, y_v52, g_v52⟩⟩ := hp
          have zc_91 := li_91
          have hM := hM.trans hm (by decide) (by decide)
          have f_a0_X12_11 := hm.1 _ _ _ _ f_a0_X12_11 (by decide)
          have f_a0_X12_12 := hm.1 _ _ _ _ f_a0_X12_12 (by decide)
          have f_a0_X12_1 := hm.1 _ _ _ _ f_a0_X12_1 (by decide)
          have f_a0_X12_8 := hm.1 _ _ _ _ f_a0_X12_8 (by decide)
          have hPS := hPS.sm hm (by decide) (by decide)
          have hRT := hRT.sm hm (by decide) (by decide)
          refine lv_if_ne (tgt := 60) hx hb dX12_fact_55 (by decide) (fun c_55 => ?_) (fun c_55 => ?_)
          · simp only [fa_lt, fa_le, fa_eq, li_0] at c_55
            obtain ⟨o9, hOS⟩ := g_v52 c_55
            refine lv_aload_n hx hb dX12_fact_60 rfl (lv_at hl 2 rfl) ?_
            refine lv_dup hx hb dX12_fact_61 rfl ?_
            refine t_getk (ci := 12) (C := RX12) (T := TX12) (N := 38) hx hb hts iX12 hown hw rfl 8 (by decide) (hts _ tw_1133) (fun _ h9 => h9) dX12_fact_62 f_a0_X12_8 ?_
            refine lv_iconst (v := 1) hx hb dX12_fact_65 (by decide) ?_
            refine lv_iadd hx hb dX12_fact_66 ?_
            refine lv_topi (fun v66 e_v66 => ?_)
            have e_v66 : v66.toInt = v17n.toInt + 1 := ad_i e_v66 rfl li_1 (by omega) (by omega)
            refine t_put (ci := 12) (C := RX12) (T := TX12) (N := 38) (v := .int v66) hx hb hts iX12 tyX12 tyX12_ok nmX12 hown hw k_a0 rfl rfl rfl 8 (by decide) (hts _ tw_1133) (fun _ h9 => h9) rfl (tyX12_ok 8 (by decide)) rfl rfl (okV.int rfl (by omega) (by omega)) dX12_fact_67 (fun w_5 H locs hw u => ?_)
            have hM := hM.up1 u (by decide)
            have f_a0_X12_11 := u.1 _ _ _ _ f_a0_X12_11 (Or.inr (Or.inr (by decide)))
            have f_a0_X12_12 := u.1 _ _ _ _ f_a0_X12_12 (Or.inr (Or.inr (by decide)))
            have f_a0_X12_1 := u.1 _ _ _ _ f_a0_X12_1 (Or.inr (Or.inr (by decide)))
            have f_a0_X12_8 := u.2.2
            have f_a0_X12_13 := u.1 _ _ _ _ f_a0_X12_13 (Or.inr (Or.inr (by decide)))
            have f_a0_X12_16 := u.1 _ _ _ _ f_a0_X12_16 (Or.inr (Or.inr (by decide)))
            have hPS := hPS.sm (Sm.of1 u) (by decide) (by decide)
            have hRT := hRT.sm (Sm.of1 u) (by decide) (by decide)
            have hOS := hOS.sm (Sm.of1 u) (by decide) (by decide)
            refine lv_iconst (v := 1) hx hb dX12_fact_70 (by decide) ?_
            refine lv_istore_n (lv' := [(1, .int 1), (2, .int v9), (0, .ref a0)]) hx hb dX12_fact_71 rfl hl (by decide) rfl (fun ls hl => ?_)
            refine lv_goto (tgt := 2) hx hb dX12_fact_72 (by decide) ?_
            exact ih_2 _ _ _ _ (by have := li_1; omega) ⟨w_5, 1, v52d, v52o, hw, hM, (by decide), (by decide), (by omega), (by omega), (by omega), (by omega), f_a0_X12_11, f_a0_X12_12, f_a0_X12_13, f_a0_X12_16, (by have := li_1; omega), (by have := li_1; omega), ⟨_, hOS⟩, hPS, (lv_sub hl [2, 0] rfl), rfl⟩
          · simp only [fa_lt, fa_le, fa_eq, li_0] at c_55
            refine lv_iconst (v := 0) hx hb dX12_fact_58 (by decide) ?_
            rw [hQ]
            refine W.widen (k := 0) (n := 0) (Nat.le_refl _) (Nat.le_refl _) ?_
            exact W.zret (v := 0) hx hb hr rfl (fun t ht hW => ⟨⟨0, w_4, rfl, ⟨(by decide), (by decide), hw.2.2.2.2, hM, ⟨f0, v52o, v52d, (by omega), (by omega), (by omega), (by omega), (by omega), (by omega), f_a0_X12_12, f_a0_X12_16, f_a0_X12_13, (by have := li_0; omega), ⟨fun _ => hRT, fun hz => absurd (by decide) hz⟩⟩⟩, by rw [ht]; exact hw.2.1, va_K.moved hW.alike hw.1, hw.2.2.1⟩, hw.2.2.2.1.F ht⟩) hw.2.2.2.1.2.2 dX12_fact_59
      · simp only [fa_lt, fa_le, fa_eq, li_0] at c_20
        refine lv_aload_n hx hb dX12_fact_23 rfl (lv_at hl 2 rfl) ?_
        refine lv_bipush (v := 11) hx hb dX12_fact_24 (by decide) ?_
        refine t_calli (va_runV (As := [.int 11]) (rest := []) ⟨hx, hb, hml, hown, hts⟩ (t_X12_opens l dC dI tys κ B w_3 hw.2.2.2.2 a0 k_a0 11 (by decide) (by decide) p2_m_a0_X12_13 (by omega) (by omega) f_a0_X12_13 p2_m_a0_X12_16 (by omega) (by omega) f_a0_X12_16 hOS (by omega) (by have := li_11; omega) H.size) (cwV 1 hts (gUV tw_1395 tw_1397 ts_4_14 tw_13 tw_1398) rfl rfl rfl (by decide +kernel) ⟨(Nat.le_of_ble_eq_true rfl), (Nat.le_of_ble_eq_true rfl)⟩) ⟨cPre.blind, t_recv hw (ci := 12) k_a0 rfl rfl, cPre.use hw.2.1 hw.1 hw.2.2.1 hE⟩ rfl rfl hl.1 rfl (lv_room (Nat.le_of_ble_eq_true rfl)) dX12_fact_26 ⟨(Nat.le_of_ble_eq_true rfl), (Nat.le_of_ble_eq_true rfl)⟩) hw hA (fun _ _ h => h.2.2.1) (fun v26 w_6 H locs hp hw => ?_)
        obtain ⟨l_v26, h_v26, _, hm, ⟨v26d, v26o, l_v26d, h_v26d, l_v26o, h_v26o, f_a0_X12_13, f_a0_X12_16, y_v26, g_v26⟩⟩ := hp
        have zc_11 := li_11
        have hM := hM.trans hm (by decide) (by decide)
        have f_a0_X12_11 := hm.1 _ _ _ _ f_a0_X12_11 (by decide)
        have f_a0_X12_12 := hm.1 _ _ _ _ f_a0_X12_12 (by decide)
        have f_a0_X12_1 := hm.1 _ _ _ _ f_a0_X12_1 (by decide)
        have f_a0_X12_8 := hm.1 _ _ _ _ f_a0_X12_8 (by decide)
        have hPS := hPS.sm hm (by decide) (by decide)
        have hRT := hRT.sm hm (by decide) (by decide)
        refine lv_if_ne (tgt := 34) hx hb dX12_fact_29 (by decide) (fun c_29 => ?_) (fun c_29 => ?_)
        · simp only [fa_lt, fa_le, fa_eq, li_0] at c_29
          obtain ⟨o9, hOS⟩ := g_v26 c_29
          refine lv_aload_n hx hb dX12_fact_34 rfl (lv_at hl 2 rfl) ?_
          refine t_callv (va_runV (As := []) (rest := []) ⟨hx, hb, hml, hown, hts⟩ (t_X12_passWord l dC dI tys κ B w_6 hw.2.2.2.2 a0 k_a0 v17n (by omega) (by omega) f_a0_X12_8 v9q1 (by omega) (by omega) f_a0_X12_1 H.size) (cwV 0 hts (gUV tw_1300 tw_1302 ts_3_10 tw_13 tw_1303) rfl rfl rfl (by decide +kernel) ⟨(Nat.le_of_ble_eq_true rfl), (Nat.le_of_ble_eq_true rfl)⟩) ⟨cPre.blind, t_recv hw (ci := 12) k_a0 rfl rfl, cPre.use hw.2.1 hw.1 hw.2.2.1 hE⟩ rfl rfl hl.1 rfl (lv_room (Nat.le_of_ble_eq_true rfl)) dX12_fact_35 ⟨(Nat.le_of_ble_eq_true rfl), (Nat.le_of_ble_eq_true rfl)⟩) hw hA (fun _ h => h.1) (fun w_7 H locs hp hw => ?_)
          obtain ⟨_, hm, ⟨v35n, l_v35n, h_v35n, f_a0_X12_8, y_v35⟩⟩ := hp
          have hM := hM.trans hm (by decide) (by decide)
          have f_a0_X12_11 := hm.1 _ _ _ _ f_a0_X12_11 (by decide)
          have f_a0_X12_12 := hm.1 _ _ _ _ f_a0_X12_12 (by decide)
          have f_a0_X12_1 := hm.1 _ _ _ _ f_a0_X12_1 (by decide)
          have f_a0_X12_13 := hm.1 _ _ _ _ f_a0_X12_13 (by decide)
          have f_a0_X12_16 := hm.1 _ _ _ _ f_a0_X12_16 (by decide)
          have hPS := hPS.sm hm (by decide) (by decide)
          have hRT := hRT.sm hm (by decide) (by decide)
          have hOS := hOS.sm hm (by decide) (by decide)
          refine lv_iconst (v := 1) hx hb dX12_fact_38 (by decide) ?_
          refine lv_istore_n (lv' := [(1, .int 1), (2, .int v9), (0, .ref a0)]) hx hb dX12_fact_39 rfl hl (by decide) rfl (fun ls hl => ?_)
          refine lv_goto (tgt := 72) hx hb dX12_fact_40 (by decide) ?_
          refine lv_goto (tgt := 2) hx hb dX12_fact_72 (by decide) ?_
          exact ih_2 _ _ _ _ (by have := li_1; omega) ⟨w_7, 1, v26d, v26o, hw, hM, (by decide), (by decide), (by omega), (by omega), (by omega), (by omega), f_a0_X12_11, f_a0_X12_12, f_a0_X12_13, f_a0_X12_16, (by have := li_1; omega), (by have := li_1; omega), ⟨_, hOS⟩, hPS, (lv_sub hl [2, 0] rfl), rfl⟩
        · simp only [fa_lt, fa_le, fa_eq, li_0] at c_29
          refine lv_iconst (v := 0) hx hb dX12_fact_32 (by decide) ?_
          rw [hQ]
          refine W.widen (k := 0) (n := 0) (Nat.le_refl _) (Nat.le_refl _) ?_
          exact W.zret (v := 0) hx hb hr rfl (fun t ht hW => ⟨⟨0, w_6, rfl, ⟨(by decide), (by decide), hw.2.2.2.2, hM, ⟨f0, v26o, v26d, (by omega), (by omega), (by omega), (by omega), (by omega), (by omega), f_a0_X12_12, f_a0_X12_16, f_a0_X12_13, (by have := li_0; omega), ⟨fun _ => hRT, fun hz => absurd (by decide) hz⟩⟩⟩, by rw [ht]; exact hw.2.1, va_K.moved hW.alike hw.1, hw.2.2.1⟩, hw.2.2.2.1.F ht⟩) hw.2.2.2.1.2.2 dX12_fact_33
  exact J2 _ _ _ _ ⟨ws, 1, f3, f2, hw, hM, (by decide), (by decide), (by omega), (by omega), (by omega), (by omega), f_a0_X12_11, f_a0_X12_12, f_a0_X12_13, f_a0_X12_16, (by have := li_1; omega), (by have := li_1; omega), ⟨_, hOS⟩, hPS, (lv_sub hl [1, 0] rfl), rfl⟩
