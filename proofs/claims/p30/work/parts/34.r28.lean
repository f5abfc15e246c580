theorem ts_5_4 : Cond.selects "BoyBishopModel" ⟨"BoyBishopModel", "farOf", "(II)I"⟩ ⟨"BoyBishopModel", "farOf", "(II)I"⟩ ∈ gT := gT_in (List.mem_append_left _ (List.mem_map.mpr ⟨(⟨"BoyBishopModel", "farOf", "(II)I"⟩, 38), (List.mem_append_right _ (List.mem_append_right _ (List.mem_append_right _ (List.mem_append_right _ (List.mem_append_right _ (List.mem_append_left _ (List.mem_of_getElem? (i := 4) rfl))))))), rfl⟩)) rfl
theorem tw_1428 : (Jvm.Cond.methodLink "BoyBishopModel" (317 : Nat) ({ cls := "BoyBishopModel", name := "farOf", desc := "(II)I" } : Jvm.MethodName)) ∈ gT := gT_in (List.mem_append_right _ (List.mem_append_right _ (List.mem_append_right _ (List.mem_append_right _ (List.mem_append_right _ (List.mem_append_right _ (List.mem_append_left _ (List.mem_of_getElem? (i := 228) rfl)))))))) rfl
theorem tw_1430 : (Jvm.Cond.instanceMethod ({ cls := "BoyBishopModel", name := "farOf", desc := "(II)I" } : Jvm.MethodName)) ∈ gT := gT_in (List.mem_append_right _ (List.mem_append_right _ (List.mem_append_right _ (List.mem_append_right _ (List.mem_append_right _ (List.mem_append_right _ (List.mem_append_left _ (List.mem_of_getElem? (i := 230) rfl)))))))) rfl
theorem tw_1431 : (Jvm.Cond.code ({ cls := "BoyBishopModel", name := "farOf", desc := "(II)I" } : Jvm.MethodName) prog_14_method_59_code (3 : Nat) (Option.some Jvm.ClassFile.FieldType.int)) ∈ gT := gT_in (List.mem_append_right _ (List.mem_append_right _ (List.mem_append_right _ (List.mem_append_right _ (List.mem_append_right _ (List.mem_append_right _ (List.mem_append_left _ (List.mem_of_getElem? (i := 231) rfl)))))))) rfl
theorem dX12_canon_0 : decode cX12_canon 0 = .ok (.aload_n 0, 1) := by decide +kernel
theorem dX12_canon_1 : decode cX12_canon 1 = .ok (.iload_n 1, 1) := by decide +kernel
theorem dX12_canon_2 : decode cX12_canon 2 = .ok (.invokevirtual 308, 3) := by decide +kernel
theorem dX12_canon_5 : decode cX12_canon 5 = .ok (.ifCond .eq 15, 3) := by decide +kernel
theorem dX12_canon_8 : decode cX12_canon 8 = .ok (.iload_n 2, 1) := by decide +kernel
theorem dX12_canon_9 : decode cX12_canon 9 = .ok (.i2l, 1) := by decide +kernel
theorem dX12_canon_10 : decode cX12_canon 10 = .ok (.lconst 0, 1) := by decide +kernel
theorem dX12_canon_11 : decode cX12_canon 11 = .ok (.ldc2_w 323, 3) := by decide +kernel
theorem dX12_canon_14 : decode cX12_canon 14 = .ok (.invokestatic 121, 3) := by decide +kernel
theorem dX12_canon_17 : decode cX12_canon 17 = .ok (.ifCond .ne 6, 3) := by decide +kernel
theorem dX12_canon_20 : decode cX12_canon 20 = .ok (.bipush (-2), 2) := by decide +kernel
theorem dX12_canon_22 : decode cX12_canon 22 = .ok (.ireturn, 1) := by decide +kernel
theorem dX12_canon_23 : decode cX12_canon 23 = .ok (.iload_n 2, 1) := by decide +kernel
theorem dX12_canon_24 : decode cX12_canon 24 = .ok (.ifCond .ne 12, 3) := by decide +kernel
theorem dX12_canon_27 : decode cX12_canon 27 = .ok (.aload_n 0, 1) := by decide +kernel
theorem dX12_canon_28 : decode cX12_canon 28 = .ok (.iload_n 1, 1) := by decide +kernel
theorem dX12_canon_29 : decode cX12_canon 29 = .ok (.iconst 0, 1) := by decide +kernel
theorem dX12_canon_30 : decode cX12_canon 30 = .ok (.invokevirtual 311, 3) := by decide +kernel
theorem dX12_canon_33 : decode cX12_canon 33 = .ok (.goto 28, 3) := by decide +kernel
theorem dX12_canon_36 : decode cX12_canon 36 = .ok (.iload_n 2, 1) := by decide +kernel
theorem dX12_canon_37 : decode cX12_canon 37 = .ok (.iconst 1, 1) := by decide +kernel
theorem dX12_canon_38 : decode cX12_canon 38 = .ok (.if_icmp .ne 15, 3) := by decide +kernel
theorem dX12_canon_41 : decode cX12_canon 41 = .ok (.aload_n 0, 1) := by decide +kernel
theorem dX12_canon_42 : decode cX12_canon 42 = .ok (.getfield 39, 3) := by decide +kernel
theorem dX12_canon_45 : decode cX12_canon 45 = .ok (.bipush 110, 2) := by decide +kernel
theorem dX12_canon_47 : decode cX12_canon 47 = .ok (.iload_n 1, 1) := by decide +kernel
theorem dX12_canon_48 : decode cX12_canon 48 = .ok (.iadd, 1) := by decide +kernel
theorem dX12_canon_49 : decode cX12_canon 49 = .ok (.iaload, 1) := by decide +kernel
theorem dX12_canon_50 : decode cX12_canon 50 = .ok (.goto 11, 3) := by decide +kernel
theorem dX12_canon_53 : decode cX12_canon 53 = .ok (.aload_n 0, 1) := by decide +kernel
theorem dX12_canon_54 : decode cX12_canon 54 = .ok (.iload_n 1, 1) := by decide +kernel
theorem dX12_canon_55 : decode cX12_canon 55 = .ok (.iload_n 2, 1) := by decide +kernel
theorem dX12_canon_56 : decode cX12_canon 56 = .ok (.iconst 1, 1) := by decide +kernel
theorem dX12_canon_57 : decode cX12_canon 57 = .ok (.isub, 1) := by decide +kernel
theorem dX12_canon_58 : decode cX12_canon 58 = .ok (.invokevirtual 311, 3) := by decide +kernel
theorem dX12_canon_61 : decode cX12_canon 61 = .ok (.ireturn, 1) := by decide +kernel
theorem dX12_farOf_0 : decode cX12_farOf 0 = .ok (.aload_n 0, 1) := by decide +kernel
theorem dX12_farOf_1 : decode cX12_farOf 1 = .ok (.getfield 39, 3) := by decide +kernel
theorem dX12_farOf_4 : decode cX12_farOf 4 = .ok (.sipush 175, 3) := by decide +kernel
theorem dX12_farOf_7 : decode cX12_farOf 7 = .ok (.bipush 7, 2) := by decide +kernel
theorem dX12_farOf_9 : decode cX12_farOf 9 = .ok (.iload_n 1, 1) := by decide +kernel
theorem dX12_farOf_10 : decode cX12_farOf 10 = .ok (.imul, 1) := by decide +kernel
theorem dX12_farOf_11 : decode cX12_farOf 11 = .ok (.iadd, 1) := by decide +kernel
theorem dX12_farOf_12 : decode cX12_farOf 12 = .ok (.iload_n 2, 1) := by decide +kernel
theorem dX12_farOf_13 : decode cX12_farOf 13 = .ok (.iadd, 1) := by decide +kernel
theorem dX12_farOf_14 : decode cX12_farOf 14 = .ok (.iaload, 1) := by decide +kernel
theorem dX12_farOf_15 : decode cX12_farOf 15 = .ok (.ireturn, 1) := by decide +kernel
theorem dX12_fillsFar_0 : decode cX12_fillsFar 0 = .ok (.iconst 0, 1) := by decide +kernel
theorem dX12_fillsFar_1 : decode cX12_fillsFar 1 = .ok (.istore_n 1, 1) := by decide +kernel
theorem dX12_fillsFar_2 : decode cX12_fillsFar 2 = .ok (.iload_n 1, 1) := by decide +kernel
theorem dX12_fillsFar_3 : decode cX12_fillsFar 3 = .ok (.bipush 7, 2) := by decide +kernel
theorem dX12_fillsFar_5 : decode cX12_fillsFar 5 = .ok (.if_icmp .ge 73, 3) := by decide +kernel
theorem dX12_fillsFar_8 : decode cX12_fillsFar 8 = .ok (.iconst 0, 1) := by decide +kernel
theorem dX12_fillsFar_9 : decode cX12_fillsFar 9 = .ok (.istore_n 2, 1) := by decide +kernel
theorem dX12_fillsFar_10 : decode cX12_fillsFar 10 = .ok (.iload_n 2, 1) := by decide +kernel
theorem dX12_fillsFar_11 : decode cX12_fillsFar 11 = .ok (.bipush 7, 2) := by decide +kernel
theorem dX12_fillsFar_13 : decode cX12_fillsFar 13 = .ok (.if_icmp .ge 59, 3) := by decide +kernel
theorem dX12_fillsFar_16 : decode cX12_fillsFar 16 = .ok (.aload_n 0, 1) := by decide +kernel
theorem dX12_fillsFar_17 : decode cX12_fillsFar 17 = .ok (.getfield 39, 3) := by decide +kernel
theorem dX12_fillsFar_20 : decode cX12_fillsFar 20 = .ok (.bipush 126, 2) := by decide +kernel
theorem dX12_fillsFar_22 : decode cX12_fillsFar 22 = .ok (.bipush 7, 2) := by decide +kernel
theorem dX12_fillsFar_24 : decode cX12_fillsFar 24 = .ok (.iload_n 1, 1) := by decide +kernel
theorem dX12_fillsFar_25 : decode cX12_fillsFar 25 = .ok (.imul, 1) := by decide +kernel
theorem dX12_fillsFar_26 : decode cX12_fillsFar 26 = .ok (.iadd, 1) := by decide +kernel
theorem dX12_fillsFar_27 : decode cX12_fillsFar 27 = .ok (.iload_n 2, 1) := by decide +kernel
theorem dX12_fillsFar_28 : decode cX12_fillsFar 28 = .ok (.iadd, 1) := by decide +kernel
theorem dX12_fillsFar_29 : decode cX12_fillsFar 29 = .ok (.iaload, 1) := by decide +kernel
theorem dX12_fillsFar_30 : decode cX12_fillsFar 30 = .ok (.istore_n 3, 1) := by decide +kernel
theorem dX12_fillsFar_31 : decode cX12_fillsFar 31 = .ok (.aload_n 0, 1) := by decide +kernel
theorem dX12_fillsFar_32 : decode cX12_fillsFar 32 = .ok (.getfield 39, 3) := by decide +kernel
theorem dX12_fillsFar_35 : decode cX12_fillsFar 35 = .ok (.sipush 175, 3) := by decide +kernel
theorem dX12_fillsFar_38 : decode cX12_fillsFar 38 = .ok (.bipush 7, 2) := by decide +kernel
theorem dX12_fillsFar_40 : decode cX12_fillsFar 40 = .ok (.iload_n 1, 1) := by decide +kernel
theorem dX12_fillsFar_41 : decode cX12_fillsFar 41 = .ok (.imul, 1) := by decide +kernel
theorem dX12_fillsFar_42 : decode cX12_fillsFar 42 = .ok (.iadd, 1) := by decide +kernel
theorem dX12_fillsFar_43 : decode cX12_fillsFar 43 = .ok (.iload_n 2, 1) := by decide +kernel
theorem dX12_fillsFar_44 : decode cX12_fillsFar 44 = .ok (.iadd, 1) := by decide +kernel
theorem dX12_fillsFar_45 : decode cX12_fillsFar 45 = .ok (.iload_n 1, 1) := by decide +kernel
theorem dX12_fillsFar_46 : decode cX12_fillsFar 46 = .ok (.iload_n 2, 1) := by decide +kernel
theorem dX12_fillsFar_47 : decode cX12_fillsFar 47 = .ok (.if_icmp .ne 7, 3) := by decide +kernel
theorem dX12_fillsFar_50 : decode cX12_fillsFar 50 = .ok (.iconst 0, 1) := by decide +kernel
theorem dX12_fillsFar_51 : decode cX12_fillsFar 51 = .ok (.goto 14, 3) := by decide +kernel
theorem dX12_fillsFar_54 : decode cX12_fillsFar 54 = .ok (.iload_n 3, 1) := by decide +kernel
theorem dX12_fillsFar_55 : decode cX12_fillsFar 55 = .ok (.ifCond .le 7, 3) := by decide +kernel
theorem dX12_fillsFar_58 : decode cX12_fillsFar 58 = .ok (.iload_n 3, 1) := by decide +kernel
theorem dX12_fillsFar_59 : decode cX12_fillsFar 59 = .ok (.goto 6, 3) := by decide +kernel
theorem dX12_fillsFar_62 : decode cX12_fillsFar 62 = .ok (.sipush 999, 3) := by decide +kernel
theorem dX12_fillsFar_65 : decode cX12_fillsFar 65 = .ok (.iastore, 1) := by decide +kernel
theorem dX12_fillsFar_66 : decode cX12_fillsFar 66 = .ok (.iinc 2 1, 3) := by decide +kernel
theorem dX12_fillsFar_69 : decode cX12_fillsFar 69 = .ok (.goto (-59), 3) := by decide +kernel
theorem dX12_fillsFar_72 : decode cX12_fillsFar 72 = .ok (.iinc 1 1, 3) := by decide +kernel
theorem dX12_fillsFar_75 : decode cX12_fillsFar 75 = .ok (.goto (-73), 3) := by decide +kernel
theorem dX12_fillsFar_78 : decode cX12_fillsFar 78 = .ok (.iconst 0, 1) := by decide +kernel
theorem dX12_fillsFar_79 : decode cX12_fillsFar 79 = .ok (.istore_n 1, 1) := by decide +kernel
theorem dX12_fillsFar_80 : decode cX12_fillsFar 80 = .ok (.iload_n 1, 1) := by decide +kernel
theorem dX12_fillsFar_81 : decode cX12_fillsFar 81 = .ok (.bipush 7, 2) := by decide +kernel
theorem dX12_fillsFar_83 : decode cX12_fillsFar 83 = .ok (.if_icmp .ge 80, 3) := by decide +kernel
theorem dX12_fillsFar_86 : decode cX12_fillsFar 86 = .ok (.iconst 0, 1) := by decide +kernel
theorem dX12_fillsFar_87 : decode cX12_fillsFar 87 = .ok (.istore_n 2, 1) := by decide +kernel
theorem dX12_fillsFar_88 : decode cX12_fillsFar 88 = .ok (.iload_n 2, 1) := by decide +kernel
theorem dX12_fillsFar_89 : decode cX12_fillsFar 89 = .ok (.bipush 7, 2) := by decide +kernel
theorem dX12_fillsFar_91 : decode cX12_fillsFar 91 = .ok (.if_icmp .ge 66, 3) := by decide +kernel
theorem dX12_fillsFar_94 : decode cX12_fillsFar 94 = .ok (.iconst 0, 1) := by decide +kernel
theorem dX12_fillsFar_95 : decode cX12_fillsFar 95 = .ok (.istore_n 3, 1) := by decide +kernel
theorem dX12_fillsFar_96 : decode cX12_fillsFar 96 = .ok (.iload_n 3, 1) := by decide +kernel
theorem dX12_fillsFar_97 : decode cX12_fillsFar 97 = .ok (.bipush 7, 2) := by decide +kernel
theorem dX12_fillsFar_99 : decode cX12_fillsFar 99 = .ok (.if_icmp .ge 52, 3) := by decide +kernel
theorem dX12_fillsFar_102 : decode cX12_fillsFar 102 = .ok (.aload_n 0, 1) := by decide +kernel
theorem dX12_fillsFar_103 : decode cX12_fillsFar 103 = .ok (.iload_n 2, 1) := by decide +kernel
theorem dX12_fillsFar_104 : decode cX12_fillsFar 104 = .ok (.iload_n 1, 1) := by decide +kernel
theorem dX12_fillsFar_105 : decode cX12_fillsFar 105 = .ok (.invokevirtual 317, 3) := by decide +kernel
theorem dX12_fillsFar_108 : decode cX12_fillsFar 108 = .ok (.aload_n 0, 1) := by decide +kernel
theorem dX12_fillsFar_109 : decode cX12_fillsFar 109 = .ok (.iload_n 1, 1) := by decide +kernel
theorem dX12_fillsFar_110 : decode cX12_fillsFar 110 = .ok (.iload_n 3, 1) := by decide +kernel
theorem dX12_fillsFar_111 : decode cX12_fillsFar 111 = .ok (.invokevirtual 317, 3) := by decide +kernel
theorem dX12_fillsFar_114 : decode cX12_fillsFar 114 = .ok (.iadd, 1) := by decide +kernel
theorem dX12_fillsFar_115 : decode cX12_fillsFar 115 = .ok (.istore 4, 2) := by decide +kernel
theorem dX12_fillsFar_117 : decode cX12_fillsFar 117 = .ok (.iload 4, 2) := by decide +kernel
theorem dX12_fillsFar_119 : decode cX12_fillsFar 119 = .ok (.aload_n 0, 1) := by decide +kernel
theorem dX12_fillsFar_120 : decode cX12_fillsFar 120 = .ok (.iload_n 2, 1) := by decide +kernel
theorem dX12_fillsFar_121 : decode cX12_fillsFar 121 = .ok (.iload_n 3, 1) := by decide +kernel
theorem dX12_fillsFar_122 : decode cX12_fillsFar 122 = .ok (.invokevirtual 317, 3) := by decide +kernel
theorem dX12_fillsFar_125 : decode cX12_fillsFar 125 = .ok (.if_icmp .ge 20, 3) := by decide +kernel
theorem dX12_fillsFar_128 : decode cX12_fillsFar 128 = .ok (.aload_n 0, 1) := by decide +kernel
theorem dX12_fillsFar_129 : decode cX12_fillsFar 129 = .ok (.getfield 39, 3) := by decide +kernel
theorem dX12_fillsFar_132 : decode cX12_fillsFar 132 = .ok (.sipush 175, 3) := by decide +kernel
theorem dX12_fillsFar_135 : decode cX12_fillsFar 135 = .ok (.bipush 7, 2) := by decide +kernel
theorem dX12_fillsFar_137 : decode cX12_fillsFar 137 = .ok (.iload_n 2, 1) := by decide +kernel
theorem dX12_fillsFar_138 : decode cX12_fillsFar 138 = .ok (.imul, 1) := by decide +kernel
theorem dX12_fillsFar_139 : decode cX12_fillsFar 139 = .ok (.iadd, 1) := by decide +kernel
theorem dX12_fillsFar_140 : decode cX12_fillsFar 140 = .ok (.iload_n 3, 1) := by decide +kernel
theorem dX12_fillsFar_141 : decode cX12_fillsFar 141 = .ok (.iadd, 1) := by decide +kernel
theorem dX12_fillsFar_142 : decode cX12_fillsFar 142 = .ok (.iload 4, 2) := by decide +kernel
theorem dX12_fillsFar_144 : decode cX12_fillsFar 144 = .ok (.iastore, 1) := by decide +kernel
theorem dX12_fillsFar_145 : decode cX12_fillsFar 145 = .ok (.iinc 3 1, 3) := by decide +kernel
theorem dX12_fillsFar_148 : decode cX12_fillsFar 148 = .ok (.goto (-52), 3) := by decide +kernel
theorem dX12_fillsFar_151 : decode cX12_fillsFar 151 = .ok (.iinc 2 1, 3) := by decide +kernel
theorem dX12_fillsFar_154 : decode cX12_fillsFar 154 = .ok (.goto (-66), 3) := by decide +kernel
theorem dX12_fillsFar_157 : decode cX12_fillsFar 157 = .ok (.iinc 1 1, 3) := by decide +kernel
theorem dX12_fillsFar_160 : decode cX12_fillsFar 160 = .ok (.goto (-80), 3) := by decide +kernel
theorem dX12_fillsFar_163 : decode cX12_fillsFar 163 = .ok (.return_, 1) := by decide +kernel
theorem dX12_isBoyHere_0 : decode cX12_isBoyHere 0 = .ok (.aload_n 0, 1) := by decide +kernel
theorem dX12_isBoyHere_1 : decode cX12_isBoyHere 1 = .ok (.getfield 26, 3) := by decide +kernel
theorem dX12_isBoyHere_4 : decode cX12_isBoyHere 4 = .ok (.iconst 3, 1) := by decide +kernel
theorem dX12_isBoyHere_5 : decode cX12_isBoyHere 5 = .ok (.iaload, 1) := by decide +kernel
theorem dX12_isBoyHere_6 : decode cX12_isBoyHere 6 = .ok (.bipush 6, 2) := by decide +kernel
theorem dX12_isBoyHere_8 : decode cX12_isBoyHere 8 = .ok (.if_icmp .ne 10, 3) := by decide +kernel
theorem dX12_isBoyHere_11 : decode cX12_isBoyHere 11 = .ok (.aload_n 0, 1) := by decide +kernel
theorem dX12_isBoyHere_12 : decode cX12_isBoyHere 12 = .ok (.iconst 4, 1) := by decide +kernel
theorem dX12_isBoyHere_13 : decode cX12_isBoyHere 13 = .ok (.iload_n 1, 1) := by decide +kernel
theorem dX12_isBoyHere_14 : decode cX12_isBoyHere 14 = .ok (.invokevirtual 114, 3) := by decide +kernel
theorem dX12_isBoyHere_17 : decode cX12_isBoyHere 17 = .ok (.ireturn, 1) := by decide +kernel
theorem dX12_isBoyHere_18 : decode cX12_isBoyHere 18 = .ok (.aload_n 0, 1) := by decide +kernel
theorem dX12_isBoyHere_19 : decode cX12_isBoyHere 19 = .ok (.invokevirtual 108, 3) := by decide +kernel
theorem dX12_isBoyHere_22 : decode cX12_isBoyHere 22 = .ok (.bipush 58, 2) := by decide +kernel
theorem dX12_isBoyHere_24 : decode cX12_isBoyHere 24 = .ok (.iconst 2, 1) := by decide +kernel
theorem dX12_isBoyHere_25 : decode cX12_isBoyHere 25 = .ok (.aload_n 0, 1) := by decide +kernel
theorem dX12_isBoyHere_26 : decode cX12_isBoyHere 26 = .ok (.getfield 26, 3) := by decide +kernel
theorem dX12_isBoyHere_29 : decode cX12_isBoyHere 29 = .ok (.iconst 3, 1) := by decide +kernel
theorem dX12_isBoyHere_30 : decode cX12_isBoyHere 30 = .ok (.iaload, 1) := by decide +kernel
theorem dX12_isBoyHere_31 : decode cX12_isBoyHere 31 = .ok (.imul, 1) := by decide +kernel
theorem dX12_isBoyHere_32 : decode cX12_isBoyHere 32 = .ok (.iadd, 1) := by decide +kernel
theorem dX12_isBoyHere_33 : decode cX12_isBoyHere 33 = .ok (.istore_n 2, 1) := by decide +kernel
theorem dX12_isBoyHere_34 : decode cX12_isBoyHere 34 = .ok (.aload_n 0, 1) := by decide +kernel
theorem dX12_isBoyHere_35 : decode cX12_isBoyHere 35 = .ok (.iload_n 2, 1) := by decide +kernel
theorem dX12_isBoyHere_36 : decode cX12_isBoyHere 36 = .ok (.iconst 1, 1) := by decide +kernel
theorem dX12_isBoyHere_37 : decode cX12_isBoyHere 37 = .ok (.bipush 99, 2) := by decide +kernel
theorem dX12_isBoyHere_39 : decode cX12_isBoyHere 39 = .ok (.invokevirtual 219, 3) := by decide +kernel
theorem dX12_isBoyHere_42 : decode cX12_isBoyHere 42 = .ok (.ifCond .eq 35, 3) := by decide +kernel
theorem dX12_isBoyHere_45 : decode cX12_isBoyHere 45 = .ok (.aload_n 0, 1) := by decide +kernel
theorem dX12_isBoyHere_46 : decode cX12_isBoyHere 46 = .ok (.iload_n 2, 1) := by decide +kernel
theorem dX12_isBoyHere_47 : decode cX12_isBoyHere 47 = .ok (.iconst 1, 1) := by decide +kernel
theorem dX12_isBoyHere_48 : decode cX12_isBoyHere 48 = .ok (.iadd, 1) := by decide +kernel
theorem dX12_isBoyHere_49 : decode cX12_isBoyHere 49 = .ok (.iconst 0, 1) := by decide +kernel
theorem dX12_isBoyHere_50 : decode cX12_isBoyHere 50 = .ok (.bipush 20, 2) := by decide +kernel
theorem dX12_isBoyHere_52 : decode cX12_isBoyHere 52 = .ok (.invokevirtual 219, 3) := by decide +kernel
theorem dX12_isBoyHere_55 : decode cX12_isBoyHere 55 = .ok (.ifCond .eq 22, 3) := by decide +kernel
theorem dX12_isBoyHere_58 : decode cX12_isBoyHere 58 = .ok (.aload_n 0, 1) := by decide +kernel
theorem dX12_isBoyHere_59 : decode cX12_isBoyHere 59 = .ok (.bipush 52, 2) := by decide +kernel
theorem dX12_isBoyHere_61 : decode cX12_isBoyHere 61 = .ok (.aload_n 0, 1) := by decide +kernel
theorem dX12_isBoyHere_62 : decode cX12_isBoyHere 62 = .ok (.getfield 26, 3) := by decide +kernel
theorem dX12_isBoyHere_65 : decode cX12_isBoyHere 65 = .ok (.iconst 3, 1) := by decide +kernel
theorem dX12_isBoyHere_66 : decode cX12_isBoyHere 66 = .ok (.iaload, 1) := by decide +kernel
theorem dX12_isBoyHere_67 : decode cX12_isBoyHere 67 = .ok (.iadd, 1) := by decide +kernel
theorem dX12_isBoyHere_68 : decode cX12_isBoyHere 68 = .ok (.iconst 0, 1) := by decide +kernel
theorem dX12_isBoyHere_69 : decode cX12_isBoyHere 69 = .ok (.bipush 9, 2) := by decide +kernel
theorem dX12_isBoyHere_71 : decode cX12_isBoyHere 71 = .ok (.invokevirtual 219, 3) := by decide +kernel
theorem dX12_isBoyHere_74 : decode cX12_isBoyHere 74 = .ok (.ifCond .ne 5, 3) := by decide +kernel
theorem dX12_isBoyHere_77 : decode cX12_isBoyHere 77 = .ok (.iconst 0, 1) := by decide +kernel
theorem dX12_isBoyHere_78 : decode cX12_isBoyHere 78 = .ok (.ireturn, 1) := by decide +kernel
theorem dX12_isBoyHere_79 : decode cX12_isBoyHere 79 = .ok (.aload_n 0, 1) := by decide +kernel
theorem dX12_isBoyHere_80 : decode cX12_isBoyHere 80 = .ok (.getfield 26, 3) := by decide +kernel
theorem dX12_isBoyHere_83 : decode cX12_isBoyHere 83 = .ok (.iconst 3, 1) := by decide +kernel
theorem dX12_isBoyHere_84 : decode cX12_isBoyHere 84 = .ok (.dup2, 1) := by decide +kernel
theorem dX12_isBoyHere_85 : decode cX12_isBoyHere 85 = .ok (.iaload, 1) := by decide +kernel
theorem dX12_isBoyHere_86 : decode cX12_isBoyHere 86 = .ok (.iconst 1, 1) := by decide +kernel
theorem dX12_isBoyHere_87 : decode cX12_isBoyHere 87 = .ok (.iadd, 1) := by decide +kernel
theorem dX12_isBoyHere_88 : decode cX12_isBoyHere 88 = .ok (.iastore, 1) := by decide +kernel
theorem dX12_isBoyHere_89 : decode cX12_isBoyHere 89 = .ok (.iconst 1, 1) := by decide +kernel
theorem dX12_isBoyHere_90 : decode cX12_isBoyHere 90 = .ok (.ireturn, 1) := by decide +kernel
theorem dX12_isCanonHere_0 : decode cX12_isCanonHere 0 = .ok (.aload_n 0, 1) := by decide +kernel
theorem dX12_isCanonHere_1 : decode cX12_isCanonHere 1 = .ok (.getfield 26, 3) := by decide +kernel
theorem dX12_isCanonHere_4 : decode cX12_isCanonHere 4 = .ok (.iconst 4, 1) := by decide +kernel
theorem dX12_isCanonHere_5 : decode cX12_isCanonHere 5 = .ok (.iaload, 1) := by decide +kernel
theorem dX12_isCanonHere_6 : decode cX12_isCanonHere 6 = .ok (.iconst 4, 1) := by decide +kernel
theorem dX12_isCanonHere_7 : decode cX12_isCanonHere 7 = .ok (.if_icmp .ne 10, 3) := by decide +kernel
theorem dX12_isCanonHere_10 : decode cX12_isCanonHere 10 = .ok (.aload_n 0, 1) := by decide +kernel
theorem dX12_isCanonHere_11 : decode cX12_isCanonHere 11 = .ok (.iconst 4, 1) := by decide +kernel
theorem dX12_isCanonHere_12 : decode cX12_isCanonHere 12 = .ok (.iload_n 1, 1) := by decide +kernel
theorem dX12_isCanonHere_13 : decode cX12_isCanonHere 13 = .ok (.invokevirtual 114, 3) := by decide +kernel
theorem dX12_isCanonHere_16 : decode cX12_isCanonHere 16 = .ok (.ireturn, 1) := by decide +kernel
theorem dX12_isCanonHere_17 : decode cX12_isCanonHere 17 = .ok (.aload_n 0, 1) := by decide +kernel
theorem dX12_isCanonHere_18 : decode cX12_isCanonHere 18 = .ok (.invokevirtual 108, 3) := by decide +kernel
theorem dX12_isCanonHere_21 : decode cX12_isCanonHere 21 = .ok (.aload_n 0, 1) := by decide +kernel
theorem dX12_isCanonHere_22 : decode cX12_isCanonHere 22 = .ok (.bipush 106, 2) := by decide +kernel
theorem dX12_isCanonHere_24 : decode cX12_isCanonHere 24 = .ok (.aload_n 0, 1) := by decide +kernel
theorem dX12_isCanonHere_25 : decode cX12_isCanonHere 25 = .ok (.getfield 26, 3) := by decide +kernel
theorem dX12_isCanonHere_28 : decode cX12_isCanonHere 28 = .ok (.iconst 4, 1) := by decide +kernel
theorem dX12_isCanonHere_29 : decode cX12_isCanonHere 29 = .ok (.iaload, 1) := by decide +kernel
theorem dX12_isCanonHere_30 : decode cX12_isCanonHere 30 = .ok (.iadd, 1) := by decide +kernel
theorem dX12_isCanonHere_31 : decode cX12_isCanonHere 31 = .ok (.bipush 20, 2) := by decide +kernel
theorem dX12_isCanonHere_33 : decode cX12_isCanonHere 33 = .ok (.bipush 99, 2) := by decide +kernel
theorem dX12_isCanonHere_35 : decode cX12_isCanonHere 35 = .ok (.invokevirtual 219, 3) := by decide +kernel
theorem dX12_isCanonHere_38 : decode cX12_isCanonHere 38 = .ok (.ifCond .eq 22, 3) := by decide +kernel
theorem dX12_isCanonHere_41 : decode cX12_isCanonHere 41 = .ok (.aload_n 0, 1) := by decide +kernel
theorem dX12_isCanonHere_42 : decode cX12_isCanonHere 42 = .ok (.bipush 110, 2) := by decide +kernel
theorem dX12_isCanonHere_44 : decode cX12_isCanonHere 44 = .ok (.aload_n 0, 1) := by decide +kernel
theorem dX12_isCanonHere_45 : decode cX12_isCanonHere 45 = .ok (.getfield 26, 3) := by decide +kernel
theorem dX12_isCanonHere_48 : decode cX12_isCanonHere 48 = .ok (.iconst 4, 1) := by decide +kernel
theorem dX12_isCanonHere_49 : decode cX12_isCanonHere 49 = .ok (.iaload, 1) := by decide +kernel
theorem dX12_isCanonHere_50 : decode cX12_isCanonHere 50 = .ok (.iadd, 1) := by decide +kernel
theorem dX12_isCanonHere_51 : decode cX12_isCanonHere 51 = .ok (.iconst 0, 1) := by decide +kernel
theorem dX12_isCanonHere_52 : decode cX12_isCanonHere 52 = .ok (.bipush 99, 2) := by decide +kernel
theorem dX12_isCanonHere_54 : decode cX12_isCanonHere 54 = .ok (.invokevirtual 219, 3) := by decide +kernel
theorem dX12_isCanonHere_57 : decode cX12_isCanonHere 57 = .ok (.ifCond .ne 5, 3) := by decide +kernel
theorem dX12_isCanonHere_60 : decode cX12_isCanonHere 60 = .ok (.iconst 0, 1) := by decide +kernel
theorem dX12_isCanonHere_61 : decode cX12_isCanonHere 61 = .ok (.ireturn, 1) := by decide +kernel
theorem dX12_isCanonHere_62 : decode cX12_isCanonHere 62 = .ok (.aload_n 0, 1) := by decide +kernel
theorem dX12_isCanonHere_63 : decode cX12_isCanonHere 63 = .ok (.getfield 26, 3) := by decide +kernel
theorem dX12_isCanonHere_66 : decode cX12_isCanonHere 66 = .ok (.iconst 4, 1) := by decide +kernel
theorem dX12_isCanonHere_67 : decode cX12_isCanonHere 67 = .ok (.dup2, 1) := by decide +kernel
theorem dX12_isCanonHere_68 : decode cX12_isCanonHere 68 = .ok (.iaload, 1) := by decide +kernel
theorem dX12_isCanonHere_69 : decode cX12_isCanonHere 69 = .ok (.iconst 1, 1) := by decide +kernel
theorem dX12_isCanonHere_70 : decode cX12_isCanonHere 70 = .ok (.iadd, 1) := by decide +kernel
theorem dX12_isCanonHere_71 : decode cX12_isCanonHere 71 = .ok (.iastore, 1) := by decide +kernel
theorem dX12_isCanonHere_72 : decode cX12_isCanonHere 72 = .ok (.iconst 1, 1) := by decide +kernel
theorem dX12_isCanonHere_73 : decode cX12_isCanonHere 73 = .ok (.ireturn, 1) := by decide +kernel
theorem dX12_isChoirHere_0 : decode cX12_isChoirHere 0 = .ok (.aload_n 0, 1) := by decide +kernel
theorem dX12_isChoirHere_1 : decode cX12_isChoirHere 1 = .ok (.getfield 26, 3) := by decide +kernel
theorem dX12_isChoirHere_4 : decode cX12_isChoirHere 4 = .ok (.iconst 0, 1) := by decide +kernel
theorem dX12_isChoirHere_5 : decode cX12_isChoirHere 5 = .ok (.iaload, 1) := by decide +kernel
theorem dX12_isChoirHere_6 : decode cX12_isChoirHere 6 = .ok (.ifCond .le 10, 3) := by decide +kernel
theorem dX12_isChoirHere_9 : decode cX12_isChoirHere 9 = .ok (.aload_n 0, 1) := by decide +kernel
theorem dX12_isChoirHere_10 : decode cX12_isChoirHere 10 = .ok (.iconst 4, 1) := by decide +kernel
theorem dX12_isChoirHere_11 : decode cX12_isChoirHere 11 = .ok (.iload_n 1, 1) := by decide +kernel
theorem dX12_isChoirHere_12 : decode cX12_isChoirHere 12 = .ok (.invokevirtual 114, 3) := by decide +kernel
theorem dX12_isChoirHere_15 : decode cX12_isChoirHere 15 = .ok (.ireturn, 1) := by decide +kernel
theorem dX12_isChoirHere_16 : decode cX12_isChoirHere 16 = .ok (.aload_n 0, 1) := by decide +kernel
theorem dX12_isChoirHere_17 : decode cX12_isChoirHere 17 = .ok (.invokevirtual 108, 3) := by decide +kernel
theorem dX12_isChoirHere_20 : decode cX12_isChoirHere 20 = .ok (.aload_n 0, 1) := by decide +kernel
theorem dX12_isChoirHere_21 : decode cX12_isChoirHere 21 = .ok (.iconst 1, 1) := by decide +kernel
theorem dX12_isChoirHere_22 : decode cX12_isChoirHere 22 = .ok (.iconst 1, 1) := by decide +kernel
theorem dX12_isChoirHere_23 : decode cX12_isChoirHere 23 = .ok (.bipush 40, 2) := by decide +kernel
theorem dX12_isChoirHere_25 : decode cX12_isChoirHere 25 = .ok (.invokevirtual 219, 3) := by decide +kernel
theorem dX12_isChoirHere_28 : decode cX12_isChoirHere 28 = .ok (.ifCond .eq 14, 3) := by decide +kernel
theorem dX12_isChoirHere_31 : decode cX12_isChoirHere 31 = .ok (.aload_n 0, 1) := by decide +kernel
theorem dX12_isChoirHere_32 : decode cX12_isChoirHere 32 = .ok (.iconst 2, 1) := by decide +kernel
theorem dX12_isChoirHere_33 : decode cX12_isChoirHere 33 = .ok (.iconst 0, 1) := by decide +kernel
theorem dX12_isChoirHere_34 : decode cX12_isChoirHere 34 = .ok (.bipush 24, 2) := by decide +kernel
theorem dX12_isChoirHere_36 : decode cX12_isChoirHere 36 = .ok (.invokevirtual 219, 3) := by decide +kernel
theorem dX12_isChoirHere_39 : decode cX12_isChoirHere 39 = .ok (.ifCond .ne 5, 3) := by decide +kernel
theorem dX12_isChoirHere_42 : decode cX12_isChoirHere 42 = .ok (.iconst 0, 1) := by decide +kernel
theorem dX12_isChoirHere_43 : decode cX12_isChoirHere 43 = .ok (.ireturn, 1) := by decide +kernel
theorem dX12_isChoirHere_44 : decode cX12_isChoirHere 44 = .ok (.aload_n 0, 1) := by decide +kernel
theorem dX12_isChoirHere_45 : decode cX12_isChoirHere 45 = .ok (.getfield 26, 3) := by decide +kernel
theorem dX12_isChoirHere_48 : decode cX12_isChoirHere 48 = .ok (.iconst 0, 1) := by decide +kernel
theorem dX12_isChoirHere_49 : decode cX12_isChoirHere 49 = .ok (.iconst 1, 1) := by decide +kernel
theorem dX12_isChoirHere_50 : decode cX12_isChoirHere 50 = .ok (.iastore, 1) := by decide +kernel
theorem dX12_isChoirHere_51 : decode cX12_isChoirHere 51 = .ok (.iconst 1, 1) := by decide +kernel
theorem dX12_isChoirHere_52 : decode cX12_isChoirHere 52 = .ok (.ireturn, 1) := by decide +kernel
theorem dX12_isFarmHere_0 : decode cX12_isFarmHere 0 = .ok (.aload_n 0, 1) := by decide +kernel
theorem dX12_isFarmHere_1 : decode cX12_isFarmHere 1 = .ok (.getfield 26, 3) := by decide +kernel
theorem dX12_isFarmHere_4 : decode cX12_isFarmHere 4 = .ok (.iconst 5, 1) := by decide +kernel
theorem dX12_isFarmHere_5 : decode cX12_isFarmHere 5 = .ok (.iaload, 1) := by decide +kernel
theorem dX12_isFarmHere_6 : decode cX12_isFarmHere 6 = .ok (.bipush 6, 2) := by decide +kernel
theorem dX12_isFarmHere_8 : decode cX12_isFarmHere 8 = .ok (.if_icmp .ne 10, 3) := by decide +kernel
theorem dX12_isFarmHere_11 : decode cX12_isFarmHere 11 = .ok (.aload_n 0, 1) := by decide +kernel
theorem dX12_isFarmHere_12 : decode cX12_isFarmHere 12 = .ok (.iconst 4, 1) := by decide +kernel
theorem dX12_isFarmHere_13 : decode cX12_isFarmHere 13 = .ok (.iload_n 1, 1) := by decide +kernel
theorem dX12_isFarmHere_14 : decode cX12_isFarmHere 14 = .ok (.invokevirtual 114, 3) := by decide +kernel
theorem dX12_isFarmHere_17 : decode cX12_isFarmHere 17 = .ok (.ireturn, 1) := by decide +kernel
theorem dX12_isFarmHere_18 : decode cX12_isFarmHere 18 = .ok (.aload_n 0, 1) := by decide +kernel
theorem dX12_isFarmHere_19 : decode cX12_isFarmHere 19 = .ok (.invokevirtual 108, 3) := by decide +kernel
theorem dX12_isFarmHere_22 : decode cX12_isFarmHere 22 = .ok (.bipush 114, 2) := by decide +kernel
theorem dX12_isFarmHere_24 : decode cX12_isFarmHere 24 = .ok (.iconst 2, 1) := by decide +kernel
theorem dX12_isFarmHere_25 : decode cX12_isFarmHere 25 = .ok (.aload_n 0, 1) := by decide +kernel
theorem dX12_isFarmHere_26 : decode cX12_isFarmHere 26 = .ok (.getfield 26, 3) := by decide +kernel
theorem dX12_isFarmHere_29 : decode cX12_isFarmHere 29 = .ok (.iconst 5, 1) := by decide +kernel
theorem dX12_isFarmHere_30 : decode cX12_isFarmHere 30 = .ok (.iaload, 1) := by decide +kernel
theorem dX12_isFarmHere_31 : decode cX12_isFarmHere 31 = .ok (.imul, 1) := by decide +kernel
theorem dX12_isFarmHere_32 : decode cX12_isFarmHere 32 = .ok (.iadd, 1) := by decide +kernel
theorem dX12_isFarmHere_33 : decode cX12_isFarmHere 33 = .ok (.istore_n 2, 1) := by decide +kernel
theorem dX12_isFarmHere_34 : decode cX12_isFarmHere 34 = .ok (.aload_n 0, 1) := by decide +kernel
theorem dX12_isFarmHere_35 : decode cX12_isFarmHere 35 = .ok (.iload_n 2, 1) := by decide +kernel
theorem dX12_isFarmHere_36 : decode cX12_isFarmHere 36 = .ok (.iconst 0, 1) := by decide +kernel
theorem dX12_isFarmHere_37 : decode cX12_isFarmHere 37 = .ok (.bipush 60, 2) := by decide +kernel
theorem dX12_isFarmHere_39 : decode cX12_isFarmHere 39 = .ok (.invokevirtual 219, 3) := by decide +kernel
theorem dX12_isFarmHere_42 : decode cX12_isFarmHere 42 = .ok (.ifCond .eq 16, 3) := by decide +kernel
theorem dX12_isFarmHere_45 : decode cX12_isFarmHere 45 = .ok (.aload_n 0, 1) := by decide +kernel
theorem dX12_isFarmHere_46 : decode cX12_isFarmHere 46 = .ok (.iload_n 2, 1) := by decide +kernel
theorem dX12_isFarmHere_47 : decode cX12_isFarmHere 47 = .ok (.iconst 1, 1) := by decide +kernel
theorem dX12_isFarmHere_48 : decode cX12_isFarmHere 48 = .ok (.iadd, 1) := by decide +kernel
theorem dX12_isFarmHere_49 : decode cX12_isFarmHere 49 = .ok (.iconst 0, 1) := by decide +kernel
theorem dX12_isFarmHere_50 : decode cX12_isFarmHere 50 = .ok (.bipush 9, 2) := by decide +kernel
theorem dX12_isFarmHere_52 : decode cX12_isFarmHere 52 = .ok (.invokevirtual 219, 3) := by decide +kernel
theorem dX12_isFarmHere_55 : decode cX12_isFarmHere 55 = .ok (.ifCond .ne 5, 3) := by decide +kernel
theorem dX12_isFarmHere_58 : decode cX12_isFarmHere 58 = .ok (.iconst 0, 1) := by decide +kernel
theorem dX12_isFarmHere_59 : decode cX12_isFarmHere 59 = .ok (.ireturn, 1) := by decide +kernel
theorem dX12_isFarmHere_60 : decode cX12_isFarmHere 60 = .ok (.aload_n 0, 1) := by decide +kernel
theorem dX12_isFarmHere_61 : decode cX12_isFarmHere 61 = .ok (.getfield 26, 3) := by decide +kernel
theorem dX12_isFarmHere_64 : decode cX12_isFarmHere 64 = .ok (.iconst 5, 1) := by decide +kernel
theorem dX12_isFarmHere_65 : decode cX12_isFarmHere 65 = .ok (.dup2, 1) := by decide +kernel
theorem dX12_isFarmHere_66 : decode cX12_isFarmHere 66 = .ok (.iaload, 1) := by decide +kernel
theorem dX12_isFarmHere_67 : decode cX12_isFarmHere 67 = .ok (.iconst 1, 1) := by decide +kernel
theorem dX12_isFarmHere_68 : decode cX12_isFarmHere 68 = .ok (.iadd, 1) := by decide +kernel
theorem dX12_isFarmHere_69 : decode cX12_isFarmHere 69 = .ok (.iastore, 1) := by decide +kernel
theorem dX12_isFarmHere_70 : decode cX12_isFarmHere 70 = .ok (.iconst 1, 1) := by decide +kernel
theorem dX12_isFarmHere_71 : decode cX12_isFarmHere 71 = .ok (.ireturn, 1) := by decide +kernel
theorem li_110 : (110 : Int32).toInt = 110 := by decide
theorem li_126 : (126 : Int32).toInt = 126 := by decide
theorem li_175 : (175 : Int32).toInt = 175 := by decide
set_option maxHeartbeats 4000000 in
set_option maxRecDepth 100000 in
theorem t_X12_canon (l : Launch) (dC : Nat → ClassId) (dI : Nat → Nat → Nat) (tys : List (ClassId × FieldType)) (κ : tK) (B : Nat) (ws : va_W) (hT : Ty κ tys B ws) (a0 : Nat) (k_a0 : κ a0 = some 12) (a1 : Int32) (a2 : Int32) (sz : Nat) : Met l yX12_canon (ws_u yX12_canon cX12_canon 3 (some .int)) ({ frames := 1, cells := 0, slots := 0, locals := 25 }) (va_Pc [.ref a0, .int a1, .int a2] (cPre (dC, dI) tys ws sz)) (va_Qi (fun (r : Int32) (w : va_W) => Ty κ tys B w ∧ Sm [] [] κ ws w) (fun w t => cPost (dC, dI) tys w (va_A ws sz) t) (va_A ws sz)) 0 0 (va_A ws sz) := by
  refine Met.ofW (cc := cX12_canon) (maxL := 3) (ret := (some .int)) (by decide) rfl ?_
  intro p e s m args below meth c s₁ B0 hml hv
  obtain ⟨rfl, hsz, hP, hK, hD0, hE⟩ := hv
  have hx := B0.exec
  have hb := B0.bytes
  have hr := B0.returns
  have hts0 := atoms_spec (ws := ws_u yX12_canon cX12_canon 3 (some .int)) B0.pre
  have hts : ∀ w ∈ gT, w.before _ s = true := fun w h => hts0 w (List.mem_cons_of_mem _ h)
  have hown : s.vm.findClass RX12 = some m.cls := findClass_of_methodNamed B0.named
  have hlocks := B0.notSynchronized
  subst hsz
  have hD := hD0.self (sz := s.heap.size)
  generalize hAe : va_A ws s.heap.size = A at hD ⊢
  have hA : ∀ q : Nat, s.heap.size ≤ q → A q := fun q h => by rw [← hAe]; exact Or.inr h
  have hw : tW (dC, dI) tys κ B A s ws s.heap [] := ⟨hK, hP, hD, va_S.rf, hT⟩
  have hM : Sm [] [] κ ws ws := Sm.rf
  clear hP hK hD hD0 hts0
  have l_a1 := i32_lo a1
  have h_a1 := i32_hi a1
  have l_a2 := i32_lo a2
  have h_a2 := i32_hi a2
  have hl := lv_entry ([.ref a0, .int a1, .int a2]) (n := 3) (Nat.le_of_ble_eq_true rfl)
  rw [lg_entry_eq]
  generalize (lg_sl ([.ref a0, .int a1, .int a2]) ++ List.replicate (3 - (lg_sl ([.ref a0, .int a1, .int a2])).length) Slot.unset).toArray = ls at hl ⊢
  have hl : lv_has ls 3 [(0, .ref a0), (1, .int a1), (2, .int a2)] := hl
  refine t_start (fun QQ hQ => ?_)
  refine lv_aload_n hx hb dX12_canon_0 rfl (lv_at hl 0 rfl) ?_
  refine lv_iload_n hx hb dX12_canon_1 rfl (lv_at hl 1 rfl) ?_
  refine t_calli (va_runV (As := [.int a1]) (rest := []) ⟨hx, hb, hml, hown, hts⟩ (t_X12_isCanon l dC dI tys κ B ws hw.2.2.2.2 a0 k_a0 a1 s.heap.size) (cwV 1 hts (gUV tw_1465 tw_1467 ts_5_9 tw_13 tw_1468) rfl rfl rfl (by decide +kernel) ⟨(Nat.le_of_ble_eq_true rfl), (Nat.le_of_ble_eq_true rfl)⟩) ⟨cPre.blind, t_recv hw (ci := 12) k_a0 rfl rfl, cPre.use hw.2.1 hw.1 hw.2.2.1 hE⟩ rfl rfl hl.1 rfl (lv_room (Nat.le_of_ble_eq_true rfl)) dX12_canon_2 ⟨(Nat.le_of_ble_eq_true rfl), (Nat.le_of_ble_eq_true rfl)⟩) hw hA (fun _ _ h => h.2.2.1) (fun v2 w_1 H locs hp hw => ?_)
  obtain ⟨l_v2, h_v2, _, hm, x_v2_0⟩ := hp
  have hM := hM.trans hm (by decide) (by decide)
  refine lv_if_eq (tgt := 20) hx hb dX12_canon_5 (by decide) (fun c_5 => ?_) (fun c_5 => ?_)
  · simp only [fa_lt, fa_le, fa_eq, li_0] at c_5
    refine lv_bipush (v := (-2)) hx hb dX12_canon_20 (by decide) ?_
    rw [hQ]
    refine W.widen (k := 0) (n := 0) (Nat.le_refl _) (Nat.le_refl _) ?_
    exact W.iret (v := (-2)) hx hb hr (fun t ht hW => ⟨⟨(-2), w_1, rfl, ⟨hw.2.2.2.2, hM⟩, by rw [ht]; exact hw.2.1, va_K.moved hW.alike hw.1, hw.2.2.1⟩, hw.2.2.2.1.F ht⟩) hw.2.2.2.1.2.2 dX12_canon_22
  · simp only [fa_lt, fa_le, fa_eq, li_0] at c_5
    refine lv_iload_n hx hb dX12_canon_8 rfl (lv_at hl 2 rfl) ?_
    refine lv_i2l hx hb dX12_canon_9 rfl ?_
    refine lv_topl (fun v9 e_v9 => ?_)
    have t_v9 : v9.toInt = a2.toInt := by rw [e_v9, Int32.toInt_toInt64]
    refine lv_lconst (v := 0) hx hb dX12_canon_10 (by decide) ?_
    obtain ⟨v10, e_v10⟩ : ∃ y : Int64, y = 0 := ⟨_, rfl⟩
    refine W.eq (g2 := F0 m 11 ls [.long v10, .long v9]) (by rw [e_v10]) ?_
    have t_v10 : v10.toInt = 0 := by rw [e_v10]; decide
    refine lv_ldc2 (v := 3) hx hb hown (hts _ tw_1452) dX12_canon_11 ?_
    refine lv_topl (fun v11 e_v11 => ?_)
    have t_v11 : v11.toInt = 3 := by rw [e_v11]; decide
    refine t_calli (va_runS (As := [.long v9, .long v10, .long v11]) (rest := []) ⟨hx, hb, hml, hown, hts⟩ (t_X12_in l dC dI tys κ B w_1 hw.2.2.2.2 v9 v10 v11 H.size) (va_cwS 3 hts (gUS tw_1316 tw_1317 tw_13 tw_1318) rfl rfl rfl (by decide +kernel) ⟨(Nat.le_of_ble_eq_true rfl), (Nat.le_of_ble_eq_true rfl)⟩) ⟨cPre.blind, cPre.use hw.2.1 hw.1 hw.2.2.1 hE⟩ rfl rfl hl.1 rfl (lv_room (Nat.le_of_ble_eq_true rfl)) dX12_canon_14 ⟨(Nat.le_of_ble_eq_true rfl), (Nat.le_of_ble_eq_true rfl)⟩) hw hA (fun _ _ h => h.2.2.1) (fun v14 w_2 H locs hp hw => ?_)
    obtain ⟨l_v14, h_v14, _, hm, x_v14_0⟩ := hp
    have hM := hM.trans hm (by decide) (by decide)
    refine lv_if_ne (tgt := 23) hx hb dX12_canon_17 (by decide) (fun c_17 => ?_) (fun c_17 => ?_)
    · simp only [fa_lt, fa_le, fa_eq, li_0] at c_17
      refine lv_iload_n hx hb dX12_canon_23 rfl (lv_at hl 2 rfl) ?_
      refine lv_if_ne (tgt := 36) hx hb dX12_canon_24 (by decide) (fun c_24 => ?_) (fun c_24 => ?_)
      · simp only [fa_lt, fa_le, fa_eq, li_0] at c_24
        refine lv_iload_n hx hb dX12_canon_36 rfl (lv_at hl 2 rfl) ?_
        refine lv_iconst (v := 1) hx hb dX12_canon_37 (by decide) ?_
        refine lv_icmp_ne (tgt := 53) hx hb dX12_canon_38 (by decide) (fun c_38 => ?_) (fun c_38 => ?_)
        · simp only [fa_lt, fa_le, fa_eq, li_1] at c_38
          refine lv_aload_n hx hb dX12_canon_53 rfl (lv_at hl 0 rfl) ?_
          refine lv_iload_n hx hb dX12_canon_54 rfl (lv_at hl 1 rfl) ?_
          refine lv_iload_n hx hb dX12_canon_55 rfl (lv_at hl 2 rfl) ?_
          refine lv_iconst (v := 1) hx hb dX12_canon_56 (by decide) ?_
          refine lv_isub hx hb dX12_canon_57 ?_
          refine lv_topi (fun v57 e_v57 => ?_)
          have e_v57 : v57.toInt = a2.toInt - 1 := sb_i e_v57 rfl li_1 (by omega) (by omega)
          refine t_calli (va_runV (As := [.int a1, .int v57]) (rest := []) ⟨hx, hb, hml, hown, hts⟩ (t_X12_canonOf l dC dI tys κ B w_2 hw.2.2.2.2 a0 k_a0 a1 (by omega) (by omega) v57 (by omega) (by omega) H.size) (cwV 2 hts (gUV tw_1469 tw_1471 ts_5_10 tw_13 tw_1472) rfl rfl rfl (by decide +kernel) ⟨(Nat.le_of_ble_eq_true rfl), (Nat.le_of_ble_eq_true rfl)⟩) ⟨cPre.blind, t_recv hw (ci := 12) k_a0 rfl rfl, cPre.use hw.2.1 hw.1 hw.2.2.1 hE⟩ rfl rfl hl.1 rfl (lv_room (Nat.le_of_ble_eq_true rfl)) dX12_canon_58 ⟨(Nat.le_of_ble_eq_true rfl), (Nat.le_of_ble_eq_true rfl)⟩) hw hA (fun _ _ h => h.1) (fun v58 w_3 H locs hp hw => ?_)
          obtain ⟨_, hm⟩ := hp
          have l_v58 := i32_lo v58
          have h_v58 := i32_hi v58
          have hM := hM.trans hm (by decide) (by decide)
          rw [hQ]
          refine W.widen (k := 0) (n := 0) (Nat.le_refl _) (Nat.le_refl _) ?_
          exact W.iret (v := v58) hx hb hr (fun t ht hW => ⟨⟨v58, w_3, rfl, ⟨hw.2.2.2.2, hM⟩, by rw [ht]; exact hw.2.1, va_K.moved hW.alike hw.1, hw.2.2.1⟩, hw.2.2.2.1.F ht⟩) hw.2.2.2.1.2.2 dX12_canon_61
        · simp only [fa_lt, fa_le, fa_eq, li_1] at c_38
          refine lv_aload_n hx hb dX12_canon_41 rfl (lv_at hl 0 rfl) ?_
          refine t_getr (k1 := 63) (ci := 12) (C := RX12) (T := TX12) (N := 38) hx hb hts iX12 hown hw k_a0 rfl rfl rfl 20 (by decide) (hts _ tw_1145) (fun _ h9 => h9) dX12_canon_42 rfl (fun v42 k_v42 f_a0_X12_20 => ?_)
          refine lv_bipush (v := 110) hx hb dX12_canon_45 (by decide) ?_
          refine lv_iload_n hx hb dX12_canon_47 rfl (lv_at hl 1 rfl) ?_
          refine lv_iadd hx hb dX12_canon_48 ?_
          refine lv_topi (fun v48 e_v48 => ?_)
          have e_v48 : v48.toInt = 110 + a1.toInt := ad_i e_v48 li_110 rfl (by omega) (by omega)
          refine t_iald hx hb hw k_v42 rfl rfl (by omega) (show v48.toInt < 306 by omega) dX12_canon_49 (fun v49 r_v49 s_v49 q_v49 => ?_)
          have l_v49 := i32_lo v49
          have h_v49 := i32_hi v49
          refine lv_goto (tgt := 61) hx hb dX12_canon_50 (by decide) ?_
          rw [hQ]
          refine W.widen (k := 0) (n := 0) (Nat.le_refl _) (Nat.le_refl _) ?_
          exact W.iret (v := v49) hx hb hr (fun t ht hW => ⟨⟨v49, w_2, rfl, ⟨hw.2.2.2.2, hM⟩, by rw [ht]; exact hw.2.1, va_K.moved hW.alike hw.1, hw.2.2.1⟩, hw.2.2.2.1.F ht⟩) hw.2.2.2.1.2.2 dX12_canon_61
      · simp only [fa_lt, fa_le, fa_eq, li_0] at c_24
        refine lv_aload_n hx hb dX12_canon_27 rfl (lv_at hl 0 rfl) ?_
        refine lv_iload_n hx hb dX12_canon_28 rfl (lv_at hl 1 rfl) ?_
        refine lv_iconst (v := 0) hx hb dX12_canon_29 (by decide) ?_
        refine t_calli (va_runV (As := [.int a1, .int 0]) (rest := []) ⟨hx, hb, hml, hown, hts⟩ (t_X12_canonOf l dC dI tys κ B w_2 hw.2.2.2.2 a0 k_a0 a1 (by omega) (by omega) 0 (by decide) (by decide) H.size) (cwV 2 hts (gUV tw_1469 tw_1471 ts_5_10 tw_13 tw_1472) rfl rfl rfl (by decide +kernel) ⟨(Nat.le_of_ble_eq_true rfl), (Nat.le_of_ble_eq_true rfl)⟩) ⟨cPre.blind, t_recv hw (ci := 12) k_a0 rfl rfl, cPre.use hw.2.1 hw.1 hw.2.2.1 hE⟩ rfl rfl hl.1 rfl (lv_room (Nat.le_of_ble_eq_true rfl)) dX12_canon_30 ⟨(Nat.le_of_ble_eq_true rfl), (Nat.le_of_ble_eq_true rfl)⟩) hw hA (fun _ _ h => h.1) (fun v30 w_4 H locs hp hw => ?_)
        obtain ⟨_, hm⟩ := hp
        have l_v30 := i32_lo v30
        have h_v30 := i32_hi v30
        have hM := hM.trans hm (by decide) (by decide)
        refine lv_goto (tgt := 61) hx hb dX12_canon_33 (by decide) ?_
        rw [hQ]
        refine W.widen (k := 0) (n := 0) (Nat.le_refl _) (Nat.le_refl _) ?_
        exact W.iret (v := v30) hx hb hr (fun t ht hW => ⟨⟨v30, w_4, rfl, ⟨hw.2.2.2.2, hM⟩, by rw [ht]; exact hw.2.1, va_K.moved hW.alike hw.1, hw.2.2.1⟩, hw.2.2.2.1.F ht⟩) hw.2.2.2.1.2.2 dX12_canon_61
    · simp only [fa_lt, fa_le, fa_eq, li_0] at c_17
      refine lv_bipush (v := (-2)) hx hb dX12_canon_20 (by decide) ?_
      rw [hQ]
      refine W.widen (k := 0) (n := 0) (Nat.le_refl _) (Nat.le_refl _) ?_
      exact W.iret (v := (-2)) hx hb hr (fun t ht hW => ⟨⟨(-2), w_2, rfl, ⟨hw.2.2.2.2, hM⟩, by rw [ht]; exact hw.2.1, va_K.moved hW.alike hw.1, hw.2.2.1⟩, hw.2.2.2.1.F ht⟩) hw.2.2.2.1.2.2 dX12_canon_22
set_option maxHeartbeats 4000000 in
set_option maxRecDepth 100000 in
theorem t_X12_farOf (l : Launch) (dC : Nat → ClassId) (dI : Nat → Nat → Nat) (tys : List (ClassId × FieldType)) (κ : tK) (B : Nat) (ws : va_W) (hT : Ty κ tys B ws) (a0 : Nat) (k_a0 : κ a0 = some 12) (a1 : Int32) (l_a1 : 0 ≤ a1.toInt) (h_a1 : a1.toInt ≤ 6) (a2 : Int32) (l_a2 : 0 ≤ a2.toInt) (h_a2 : a2.toInt ≤ 6) (sz : Nat) : Met l yX12_farOf (ws_u yX12_farOf cX12_farOf 3 (some .int)) ({ frames := 0, cells := 0, slots := 0, locals := 0 }) (va_Pc [.ref a0, .int a1, .int a2] (cPre (dC, dI) tys ws sz)) (va_Qi (fun (r : Int32) (w : va_W) => Ty κ tys B w ∧ Sm [] [] κ ws w) (fun w t => cPost (dC, dI) tys w (va_A ws sz) t) (va_A ws sz)) 0 0 (va_A ws sz) := by
  refine Met.ofW (cc := cX12_farOf) (maxL := 3) (ret := (some .int)) (by decide) rfl ?_
  intro p e s m args below meth c s₁ B0 hml hv
  obtain ⟨rfl, hsz, hP, hK, hD0, hE⟩ := hv
  have hx := B0.exec
  have hb := B0.bytes
  have hr := B0.returns
  have hts0 := atoms_spec (ws := ws_u yX12_farOf cX12_farOf 3 (some .int)) B0.pre
  have hts : ∀ w ∈ gT, w.before _ s = true := fun w h => hts0 w (List.mem_cons_of_mem _ h)
  have hown : s.vm.findClass RX12 = some m.cls := findClass_of_methodNamed B0.named
  have hlocks := B0.notSynchronized
  subst hsz
  have hD := hD0.self (sz := s.heap.size)
  generalize hAe : va_A ws s.heap.size = A at hD ⊢
  have hA : ∀ q : Nat, s.heap.size ≤ q → A q := fun q h => by rw [← hAe]; exact Or.inr h
  have hw : tW (dC, dI) tys κ B A s ws s.heap [] := ⟨hK, hP, hD, va_S.rf, hT⟩
  have hM : Sm [] [] κ ws ws := Sm.rf
  clear hP hK hD hD0 hts0
  have hl := lv_entry ([.ref a0, .int a1, .int a2]) (n := 3) (Nat.le_of_ble_eq_true rfl)
  rw [lg_entry_eq]
  generalize (lg_sl ([.ref a0, .int a1, .int a2]) ++ List.replicate (3 - (lg_sl ([.ref a0, .int a1, .int a2])).length) Slot.unset).toArray = ls at hl ⊢
  have hl : lv_has ls 3 [(0, .ref a0), (1, .int a1), (2, .int a2)] := hl
  refine t_start (fun QQ hQ => ?_)
  refine lv_aload_n hx hb dX12_farOf_0 rfl (lv_at hl 0 rfl) ?_
  refine t_getr (k1 := 63) (ci := 12) (C := RX12) (T := TX12) (N := 38) hx hb hts iX12 hown hw k_a0 rfl rfl rfl 20 (by decide) (hts _ tw_1145) (fun _ h9 => h9) dX12_farOf_1 rfl (fun v1 k_v1 f_a0_X12_20 => ?_)
  refine lv_sipush (v := 175) hx hb dX12_farOf_4 (by decide) ?_
  refine lv_bipush (v := 7) hx hb dX12_farOf_7 (by decide) ?_
  refine lv_iload_n hx hb dX12_farOf_9 rfl (lv_at hl 1 rfl) ?_
  refine lv_imul hx hb dX12_farOf_10 ?_
  refine lv_topi (fun v10 e_v10 => ?_)
  have e_v10 : v10.toInt = 7 * a1.toInt := ml_i e_v10 li_7 rfl (by omega) (by omega)
  refine lv_iadd hx hb dX12_farOf_11 ?_
  refine lv_topi (fun v11 e_v11 => ?_)
  have e_v11 : v11.toInt = 175 + v10.toInt := ad_i e_v11 li_175 rfl (by omega) (by omega)
  refine lv_iload_n hx hb dX12_farOf_12 rfl (lv_at hl 2 rfl) ?_
  refine lv_iadd hx hb dX12_farOf_13 ?_
  refine lv_topi (fun v13 e_v13 => ?_)
  have e_v13 : v13.toInt = v11.toInt + a2.toInt := ad_i e_v13 rfl rfl (by omega) (by omega)
  refine t_iald hx hb hw k_v1 rfl rfl (by omega) (show v13.toInt < 306 by omega) dX12_farOf_14 (fun v14 r_v14 s_v14 q_v14 => ?_)
  have l_v14 := i32_lo v14
  have h_v14 := i32_hi v14
  rw [hQ]
  refine W.widen (k := 0) (n := 0) (Nat.le_refl _) (Nat.le_refl _) ?_
  exact W.iret (v := v14) hx hb hr (fun t ht hW => ⟨⟨v14, ws, rfl, ⟨hw.2.2.2.2, hM⟩, by rw [ht]; exact hw.2.1, va_K.moved hW.alike hw.1, hw.2.2.1⟩, hw.2.2.2.1.F ht⟩) hw.2.2.2.1.2.2 dX12_farOf_15
set_option maxHeartbeats 4000000 in
set_option maxRecDepth 100000 in
theorem t_X12_fillsFar (l : Launch) (dC : Nat → ClassId) (dI : Nat → Nat → Nat) (tys : List (ClassId × FieldType)) (κ : tK) (B : Nat) (ws : va_W) (hT : Ty κ tys B ws) (a0 : Nat) (k_a0 : κ a0 = some 12) (sz : Nat) : Met l yX12_fillsFar (ws_u yX12_fillsFar cX12_fillsFar 5 none) ({ frames := 1, cells := 0, slots := 0, locals := 22 }) (va_Pc [.ref a0] (cPre (dC, dI) tys ws sz)) (va_Qv (fun (w : va_W) => Ty κ tys B w ∧ Sm [] [63] κ ws w) (fun w t => cPost (dC, dI) tys w (va_A ws sz) t) (va_A ws sz)) 0 0 (va_A ws sz) := by
  refine Met.ofW (cc := cX12_fillsFar) (maxL := 5) (ret := none) (by decide) rfl ?_
  intro p e s m args below meth c s₁ B0 hml hv
  obtain ⟨rfl, hsz, hP, hK, hD0, hE⟩ := hv
  have hx := B0.exec
  have hb := B0.bytes
  have hr := B0.returns
  have hts0 := atoms_spec (ws := ws_u yX12_fillsFar cX12_fillsFar 5 none) B0.pre
  have hts : ∀ w ∈ gT, w.before _ s = true := fun w h => hts0 w (List.mem_cons_of_mem _ h)
  have hown : s.vm.findClass RX12 = some m.cls := findClass_of_methodNamed B0.named
  have hlocks := B0.notSynchronized
  subst hsz
  have hD := hD0.self (sz := s.heap.size)
  generalize hAe : va_A ws s.heap.size = A at hD ⊢
  have hA : ∀ q : Nat, s.heap.size ≤ q → A q := fun q h => by rw [← hAe]; exact Or.inr h
  have hw : tW (dC, dI) tys κ B A s ws s.heap [] := ⟨hK, hP, hD, va_S.rf, hT⟩
  have hM : Sm [] [63] κ ws ws := Sm.rf
  clear hP hK hD hD0 hts0
  have hl := lv_entry ([.ref a0]) (n := 5) (Nat.le_of_ble_eq_true rfl)
  rw [lg_entry_eq]
  generalize (lg_sl ([.ref a0]) ++ List.replicate (5 - (lg_sl ([.ref a0])).length) Slot.unset).toArray = ls at hl ⊢
  have hl : lv_has ls 5 [(0, .ref a0)] := hl
  refine t_start (fun QQ hQ => ?_)
  refine lv_iconst (v := 0) hx hb dX12_fillsFar_0 (by decide) ?_
  refine lv_istore_n (lv' := [(1, .int 0), (0, .ref a0)]) hx hb dX12_fillsFar_1 rfl hl (by decide) rfl (fun ls hl => ?_)
  have J2 : ∀ (n : Nat) (H : Heap) (locs : List Loc) (ls : Array Slot), (∃ (w2 : va_W) (p2_l1 : Int32), tW (dC, dI) tys κ B A s w2 H locs ∧ Sm [] [63] κ ws w2 ∧ 0 ≤ p2_l1.toInt ∧ p2_l1.toInt ≤ 7 ∧ lv_has ls 5 [(0, .ref a0), (1, .int p2_l1)] ∧ (7 - p2_l1.toInt).toNat = n) → W p l e (headSpec (ws_u yX12_fillsFar cX12_fillsFar 5 none) ({ frames := 1, cells := 0, slots := 0, locals := 22 })).room s m ([.ref a0] : List Value).toArray below meth c H locs 0 0 QQ (F0 m 2 ls []) := by
    refine loopT _ ?_
    intro n_2 H locs ls hI ih_2
    obtain ⟨w2, p2_l1, hw, hM, l_p2_l1, h_p2_l1, hl, hn_2⟩ := hI
    refine lv_iload_n hx hb dX12_fillsFar_2 rfl (lv_at hl 1 rfl) ?_
    refine lv_bipush (v := 7) hx hb dX12_fillsFar_3 (by decide) ?_
    refine lv_icmp_ge (tgt := 78) hx hb dX12_fillsFar_5 (by decide) (fun c_5 => ?_) (fun c_5 => ?_)
    · simp only [fa_lt, fa_le, fa_eq, li_7] at c_5
      refine lv_iconst (v := 0) hx hb dX12_fillsFar_78 (by decide) ?_
      refine lv_istore_n (lv' := [(1, .int 0), (0, .ref a0)]) hx hb dX12_fillsFar_79 rfl hl (by decide) rfl (fun ls hl => ?_)
      have J80 : ∀ (n : Nat) (H : Heap) (locs : List Loc) (ls : Array Slot), (∃ (w80 : va_W) (p80_l1 : Int32), tW (dC, dI) tys κ B A s w80 H locs ∧ Sm [] [63] κ ws w80 ∧ 0 ≤ p80_l1.toInt ∧ p80_l1.toInt ≤ 7 ∧ lv_has ls 5 [(0, .ref a0), (1, .int p80_l1)] ∧ (7 - p80_l1.toInt).toNat = n) → W p l e (headSpec (ws_u yX12_fillsFar cX12_fillsFar 5 none) ({ frames := 1, cells := 0, slots := 0, locals := 22 })).room s m ([.ref a0] : List Value).toArray below meth c H locs 0 0 QQ (F0 m 80 ls []) := by
        refine loopT _ ?_
        intro n_80 H locs ls hI ih_80
        obtain ⟨w80, p80_l1, hw, hM, l_p80_l1, h_p80_l1, hl, hn_80⟩ := hI
        refine lv_iload_n hx hb dX12_fillsFar_80 rfl (lv_at hl 1 rfl) ?_
        refine lv_bipush (v := 7) hx hb dX12_fillsFar_81 (by decide) ?_
        refine lv_icmp_ge (tgt := 163) hx hb dX12_fillsFar_83 (by decide) (fun c_83 => ?_) (fun c_83 => ?_)
        · simp only [fa_lt, fa_le, fa_eq, li_7] at c_83
          rw [hQ]
          refine W.widen (k := 0) (n := 0) (Nat.le_refl _) (Nat.le_refl _) ?_
          exact W.vret hx hb hr (fun t ht hW => ⟨⟨w80, rfl, ⟨hw.2.2.2.2, hM⟩, by rw [ht]; exact hw.2.1, va_K.moved hW.alike hw.1, hw.2.2.1⟩, hw.2.2.2.1.F ht⟩) hw.2.2.2.1.2.2 dX12_fillsFar_163
        · simp only [fa_lt, fa_le, fa_eq, li_7] at c_83
          refine lv_iconst (v := 0) hx hb dX12_fillsFar_86 (by decide) ?_
          refine lv_istore_n (lv' := [(2, .int 0), (0, .ref a0), (1, .int p80_l1)]) hx hb dX12_fillsFar_87 rfl hl (by decide) rfl (fun ls hl => ?_)
          have J88 : ∀ (n : Nat) (H : Heap) (locs : List Loc) (ls : Array Slot), (∃ (w88 : va_W) (p88_l2 : Int32), tW (dC, dI) tys κ B A s w88 H locs ∧ Sm [] [63] κ ws w88 ∧ 0 ≤ p88_l2.toInt ∧ p88_l2.toInt ≤ 7 ∧ lv_has ls 5 [(0, .ref a0), (1, .int p80_l1), (2, .int p88_l2)] ∧ (7 - p88_l2.toInt).toNat = n) → W p l e (headSpec (ws_u yX12_fillsFar cX12_fillsFar 5 none) ({ frames := 1, cells := 0, slots := 0, locals := 22 })).room s m ([.ref a0] : List Value).toArray below meth c H locs 0 0 QQ (F0 m 88 ls []) := by
            refine loopT _ ?_
            intro n_88 H locs ls hI ih_88
            obtain ⟨w88, p88_l2, hw, hM, l_p88_l2, h_p88_l2, hl, hn_88⟩ := hI
            refine lv_iload_n hx hb dX12_fillsFar_88 rfl (lv_at hl 2 rfl) ?_
            refine lv_bipush (v := 7) hx hb dX12_fillsFar_89 (by decide) ?_
            refine lv_icmp_ge (tgt := 157) hx hb dX12_fillsFar_91 (by decide) (fun c_91 => ?_) (fun c_91 => ?_)
            · simp only [fa_lt, fa_le, fa_eq, li_7] at c_91
              obtain ⟨v157, e_v157⟩ : ∃ y : Int32, y = p80_l1 + 1 := ⟨_, rfl⟩
              refine lv_iinc (v := v157) (lv' := [(1, .int v157), (0, .ref a0), (2, .int p88_l2)]) hx hb dX12_fillsFar_157 hl (k := 1) rfl e_v157.symm (by decide) rfl (fun ls hl => ?_)
              have e_v157 : v157.toInt = p80_l1.toInt + 1 := ad_i e_v157 rfl li_1 (by omega) (by omega)
              refine lv_goto (tgt := 80) hx hb dX12_fillsFar_160 (by decide) ?_
              exact ih_80 _ _ _ _ (by omega) ⟨w88, v157, hw, hM, (by omega), (by omega), (lv_sub hl [1, 0] rfl), rfl⟩
            · simp only [fa_lt, fa_le, fa_eq, li_7] at c_91
              refine lv_iconst (v := 0) hx hb dX12_fillsFar_94 (by decide) ?_
              refine lv_istore_n (lv' := [(3, .int 0), (0, .ref a0), (1, .int p80_l1), (2, .int p88_l2)]) hx hb dX12_fillsFar_95 rfl hl (by decide) rfl (fun ls hl => ?_)
              have J96 : ∀ (n : Nat) (H : Heap) (locs : List Loc) (ls : Array Slot), (∃ (w96 : va_W) (p96_l3 : Int32), tW (dC, dI) tys κ B A s w96 H locs ∧ Sm [] [63] κ ws w96 ∧ 0 ≤ p96_l3.toInt ∧ p96_l3.toInt ≤ 7 ∧ lv_has ls 5 [(0, .ref a0), (1, .int p80_l1), (2, .int p88_l2), (3, .int p96_l3)] ∧ (7 - p96_l3.toInt).toNat = n) → W p l e (headSpec (ws_u yX12_fillsFar cX12_fillsFar 5 none) ({ frames := 1, cells := 0, slots := 0, locals := 22 })).room s m ([.ref a0] : List Value).toArray below meth c H locs 0 0 QQ (F0 m 96 ls []) := by
                refine loopT _ ?_
                intro n_96 H locs ls hI ih_96
                obtain ⟨w96, p96_l3, hw, hM, l_p96_l3, h_p96_l3, hl, hn_96⟩ := hI
                refine lv_iload_n hx hb dX12_fillsFar_96 rfl (lv_at hl 3 rfl) ?_
                refine lv_bipush (v := 7) hx hb dX12_fillsFar_97 (by decide) ?_
                refine lv_icmp_ge (tgt := 151) hx hb dX12_fillsFar_99 (by decide) (fun c_99 => ?_) (fun c_99 => ?_)
                · simp only [fa_lt, fa_le, fa_eq, li_7] at c_99
                  obtain ⟨v151, e_v151⟩ : ∃ y : Int32, y = p88_l2 + 1 := ⟨_, rfl⟩
                  refine lv_iinc (v := v151) (lv' := [(2, .int v151), (0, .ref a0), (1, .int p80_l1), (3, .int p96_l3)]) hx hb dX12_fillsFar_151 hl (k := 2) rfl e_v151.symm (by decide) rfl (fun ls hl => ?_)
                  have e_v151 : v151.toInt = p88_l2.toInt + 1 := ad_i e_v151 rfl li_1 (by omega) (by omega)
                  refine lv_goto (tgt := 88) hx hb dX12_fillsFar_154 (by decide) ?_
                  exact ih_88 _ _ _ _ (by omega) ⟨w96, v151, hw, hM, (by omega), (by omega), (lv_sub hl [1, 2, 0] rfl), rfl⟩
                · simp only [fa_lt, fa_le, fa_eq, li_7] at c_99
                  refine lv_aload_n hx hb dX12_fillsFar_102 rfl (lv_at hl 0 rfl) ?_
                  refine lv_iload_n hx hb dX12_fillsFar_103 rfl (lv_at hl 2 rfl) ?_
                  refine lv_iload_n hx hb dX12_fillsFar_104 rfl (lv_at hl 1 rfl) ?_
                  refine t_calli (va_runV (As := [.int p88_l2, .int p80_l1]) (rest := []) ⟨hx, hb, hml, hown, hts⟩ (t_X12_farOf l dC dI tys κ B w96 hw.2.2.2.2 a0 k_a0 p88_l2 (by omega) (by omega) p80_l1 (by omega) (by omega) H.size) (cwV 2 hts (gUV tw_1428 tw_1430 ts_5_4 tw_13 tw_1431) rfl rfl rfl (by decide +kernel) ⟨(Nat.le_of_ble_eq_true rfl), (Nat.le_of_ble_eq_true rfl)⟩) ⟨cPre.blind, t_recv hw (ci := 12) k_a0 rfl rfl, cPre.use hw.2.1 hw.1 hw.2.2.1 hE⟩ rfl rfl hl.1 rfl (lv_room (Nat.le_of_ble_eq_true rfl)) dX12_fillsFar_105 ⟨(Nat.le_of_ble_eq_true rfl), (Nat.le_of_ble_eq_true rfl)⟩) hw hA (fun _ _ h => h.1) (fun v105 w_1 H locs hp hw => ?_)
                  obtain ⟨_, hm⟩ := hp
                  have l_v105 := i32_lo v105
                  have h_v105 := i32_hi v105
                  have hM := hM.trans hm (by decide) (by decide)
                  refine lv_aload_n hx hb dX12_fillsFar_108 rfl (lv_at hl 0 rfl) ?_
                  refine lv_iload_n hx hb dX12_fillsFar_109 rfl (lv_at hl 1 rfl) ?_
                  refine lv_iload_n hx hb dX12_fillsFar_110 rfl (lv_at hl 3 rfl) ?_
                  refine t_calli (va_runV (As := [.int p80_l1, .int p96_l3]) (rest := [.int v105]) ⟨hx, hb, hml, hown, hts⟩ (t_X12_farOf l dC dI tys κ B w_1 hw.2.2.2.2 a0 k_a0 p80_l1 (by omega) (by omega) p96_l3 (by omega) (by omega) H.size) (cwV 2 hts (gUV tw_1428 tw_1430 ts_5_4 tw_13 tw_1431) rfl rfl rfl (by decide +kernel) ⟨(Nat.le_of_ble_eq_true rfl), (Nat.le_of_ble_eq_true rfl)⟩) ⟨cPre.blind, t_recv hw (ci := 12) k_a0 rfl rfl, cPre.use hw.2.1 hw.1 hw.2.2.1 hE⟩ rfl rfl hl.1 rfl (lv_room (Nat.le_of_ble_eq_true rfl)) dX12_fillsFar_111 ⟨(Nat.le_of_ble_eq_true rfl), (Nat.le_of_ble_eq_true rfl)⟩) hw hA (fun _ _ h => h.1) (fun v111 w_2 H locs hp hw => ?_)
                  obtain ⟨_, hm⟩ := hp
                  have l_v111 := i32_lo v111
                  have h_v111 := i32_hi v111
                  have hM := hM.trans hm (by decide) (by decide)
                  refine lv_iadd hx hb dX12_fillsFar_114 ?_
                  refine lv_topi (fun v114 e_v114 => ?_)
                  have l_v114 := i32_lo v114
                  have h_v114 := i32_hi v114
                  refine lv_istore (lv' := [(4, .int v114), (0, .ref a0), (1, .int p80_l1), (2, .int p88_l2), (3, .int p96_l3)]) hx hb dX12_fillsFar_115 hl (by decide) rfl (fun ls hl => ?_)
                  refine lv_iload hx hb dX12_fillsFar_117 (lv_at hl 0 rfl) ?_
                  refine lv_aload_n hx hb dX12_fillsFar_119 rfl (lv_at hl 1 rfl) ?_
                  refine lv_iload_n hx hb dX12_fillsFar_120 rfl (lv_at hl 3 rfl) ?_
                  refine lv_iload_n hx hb dX12_fillsFar_121 rfl (lv_at hl 4 rfl) ?_
                  refine t_calli (va_runV (As := [.int p88_l2, .int p96_l3]) (rest := [.int v114]) ⟨hx, hb, hml, hown, hts⟩ (t_X12_farOf l dC dI tys κ B w_2 hw.2.2.2.2 a0 k_a0 p88_l2 (by omega) (by omega) p96_l3 (by omega) (by omega) H.size) (cwV 2 hts (gUV tw_1428 tw_1430 ts_5_4 tw_13 tw_1431) rfl rfl rfl (by decide +kernel) ⟨(Nat.le_of_ble_eq_true rfl), (Nat.le_of_ble_eq_true rfl)⟩) ⟨cPre.blind, t_recv hw (ci := 12) k_a0 rfl rfl, cPre.use hw.2.1 hw.1 hw.2.2.1 hE⟩ rfl rfl hl.1 rfl (lv_room (Nat.le_of_ble_eq_true rfl)) dX12_fillsFar_122 ⟨(Nat.le_of_ble_eq_true rfl), (Nat.le_of_ble_eq_true rfl)⟩) hw hA (fun _ _ h => h.1) (fun v122 w_3 H locs hp hw => ?_)
                  obtain ⟨_, hm⟩ := hp
                  have l_v122 := i32_lo v122
                  have h_v122 := i32_hi v122
                  have hM := hM.trans hm (by decide) (by decide)
                  have J145 : ∀ (H : Heap) (locs : List Loc) (ls : Array Slot) (w145 : va_W), tW (dC, dI) tys κ B A s w145 H locs → Sm [] [63] κ ws w145 → lv_has ls 5 [(0, .ref a0), (1, .int p80_l1), (2, .int p88_l2), (3, .int p96_l3), (4, .int v114)] → W p l e (headSpec (ws_u yX12_fillsFar cX12_fillsFar 5 none) ({ frames := 1, cells := 0, slots := 0, locals := 22 })).room s m ([.ref a0] : List Value).toArray below meth c H locs 0 0 QQ (F0 m 145 ls []) := by
                    intro H locs ls w145 hw hM hl
                    obtain ⟨v145, e_v145⟩ : ∃ y : Int32, y = p96_l3 + 1 := ⟨_, rfl⟩
                    refine lv_iinc (v := v145) (lv' := [(3, .int v145), (0, .ref a0), (1, .int p80_l1), (2, .int p88_l2), (4, .int v114)]) hx hb dX12_fillsFar_145 hl (k := 3) rfl e_v145.symm (by decide) rfl (fun ls hl => ?_)
                    have e_v145 : v145.toInt = p96_l3.toInt + 1 := ad_i e_v145 rfl li_1 (by omega) (by omega)
                    refine lv_goto (tgt := 96) hx hb dX12_fillsFar_148 (by decide) ?_
                    exact ih_96 _ _ _ _ (by omega) ⟨w145, v145, hw, hM, (by omega), (by omega), (lv_sub hl [1, 2, 3, 0] rfl), rfl⟩
                  refine lv_icmp_ge (tgt := 145) hx hb dX12_fillsFar_125 (by decide) (fun c_125 => ?_) (fun c_125 => ?_)
                  · simp only [fa_lt, fa_le, fa_eq] at c_125
                    exact J145 _ _ _ w_3 hw hM (lv_sub hl [1, 2, 3, 4, 0] rfl)
                  · simp only [fa_lt, fa_le, fa_eq] at c_125
                    refine lv_aload_n hx hb dX12_fillsFar_128 rfl (lv_at hl 1 rfl) ?_
                    refine t_getr (k1 := 63) (ci := 12) (C := RX12) (T := TX12) (N := 38) hx hb hts iX12 hown hw k_a0 rfl rfl rfl 20 (by decide) (hts _ tw_1145) (fun _ h9 => h9) dX12_fillsFar_129 rfl (fun v129 k_v129 f_a0_X12_20 => ?_)
                    refine lv_sipush (v := 175) hx hb dX12_fillsFar_132 (by decide) ?_
                    refine lv_bipush (v := 7) hx hb dX12_fillsFar_135 (by decide) ?_
                    refine lv_iload_n hx hb dX12_fillsFar_137 rfl (lv_at hl 3 rfl) ?_
                    refine lv_imul hx hb dX12_fillsFar_138 ?_
                    refine lv_topi (fun v138 e_v138 => ?_)
                    have e_v138 : v138.toInt = 7 * p88_l2.toInt := ml_i e_v138 li_7 rfl (by omega) (by omega)
                    refine lv_iadd hx hb dX12_fillsFar_139 ?_
                    refine lv_topi (fun v139 e_v139 => ?_)
                    have e_v139 : v139.toInt = 175 + v138.toInt := ad_i e_v139 li_175 rfl (by omega) (by omega)
                    refine lv_iload_n hx hb dX12_fillsFar_140 rfl (lv_at hl 4 rfl) ?_
                    refine lv_iadd hx hb dX12_fillsFar_141 ?_
                    refine lv_topi (fun v141 e_v141 => ?_)
                    have e_v141 : v141.toInt = v139.toInt + p96_l3.toInt := ad_i e_v141 rfl rfl (by omega) (by omega)
                    refine lv_iload hx hb dX12_fillsFar_142 (lv_at hl 0 rfl) ?_
                    refine t_iast hx hb hw k_v129 rfl rfl (by omega) (show v141.toInt < 306 by omega) (by rw [fr_63 (by omega) (by omega)]; exact i32_lo _) (by rw [fr_63 (by omega) (by omega)]; exact i32_hi _) dX12_fillsFar_144 (fun w_4 H locs hw u => ?_)
                    have hM := hM.up3 u k_v129 (by decide)
                    have f_a0_X12_20 := u.1 _ _ _ _ f_a0_X12_20
                    exact J145 _ _ _ w_4 hw hM (lv_sub hl [1, 2, 3, 4, 0] rfl)
              exact J96 _ _ _ _ ⟨w88, 0, hw, hM, (by decide), (by decide), (lv_sub hl [1, 2, 3, 0] rfl), rfl⟩
          exact J88 _ _ _ _ ⟨w80, 0, hw, hM, (by decide), (by decide), (lv_sub hl [1, 2, 0] rfl), rfl⟩
      exact J80 _ _ _ _ ⟨w2, 0, hw, hM, (by decide), (by decide), (lv_sub hl [1, 0] rfl), rfl⟩
    · simp only [fa_lt, fa_le, fa_eq, li_7] at c_5
      refine lv_iconst (v := 0) hx hb dX12_fillsFar_8 (by decide) ?_
      refine lv_istore_n (lv' := [(2, .int 0), (0, .ref a0), (1, .int p2_l1)]) hx hb dX12_fillsFar_9 rfl hl (by decide) rfl (fun ls hl => ?_)
      have J10 : ∀ (n : Nat) (H : Heap) (locs : List Loc) (ls : Array Slot), (∃ (w10 : va_W) (p10_l2 : Int32), tW (dC, dI) tys κ B A s w10 H locs ∧ Sm [] [63] κ ws w10 ∧ 0 ≤ p10_l2.toInt ∧ p10_l2.toInt ≤ 7 ∧ lv_has ls 5 [(0, .ref a0), (1, .int p2_l1), (2, .int p10_l2)] ∧ (7 - p10_l2.toInt).toNat = n) → W p l e (headSpec (ws_u yX12_fillsFar cX12_fillsFar 5 none) ({ frames := 1, cells := 0, slots := 0, locals := 22 })).room s m ([.ref a0] : List Value).toArray below meth c H locs 0 0 QQ (F0 m 10 ls []) := by
        refine loopT _ ?_
        intro n_10 H locs ls hI ih_10
        obtain ⟨w10, p10_l2, hw, hM, l_p10_l2, h_p10_l2, hl, hn_10⟩ := hI
        refine lv_iload_n hx hb dX12_fillsFar_10 rfl (lv_at hl 2 rfl) ?_
        refine lv_bipush (v := 7) hx hb dX12_fillsFar_11 (by decide) ?_
        refine lv_icmp_ge (tgt := 72) hx hb dX12_fillsFar_13 (by decide) (fun c_13 => ?_) (fun c_13 => ?_)
        · simp only [fa_lt, fa_le, fa_eq, li_7] at c_13
          obtain ⟨v72, e_v72⟩ : ∃ y : Int32, y = p2_l1 + 1 := ⟨_, rfl⟩
          refine lv_iinc (v := v72) (lv' := [(1, .int v72), (0, .ref a0), (2, .int p10_l2)]) hx hb dX12_fillsFar_72 hl (k := 1) rfl e_v72.symm (by decide) rfl (fun ls hl => ?_)
          have e_v72 : v72.toInt = p2_l1.toInt + 1 := ad_i e_v72 rfl li_1 (by omega) (by omega)
          refine lv_goto (tgt := 2) hx hb dX12_fillsFar_75 (by decide) ?_
          exact ih_2 _ _ _ _ (by omega) ⟨w10, v72, hw, hM, (by omega), (by omega), (lv_sub hl [1, 0] rfl), rfl⟩
        · simp only [fa_lt, fa_le, fa_eq, li_7] at c_13
          refine lv_aload_n hx hb dX12_fillsFar_16 rfl (lv_at hl 0 rfl) ?_
          refine t_getr (k1 := 63) (ci := 12) (C := RX12) (T := TX12) (N := 38) hx hb hts iX12 hown hw k_a0 rfl rfl rfl 20 (by decide) (hts _ tw_1145) (fun _ h9 => h9) dX12_fillsFar_17 rfl (fun v17 k_v17 f_a0_X12_20 => ?_)
          refine lv_bipush (v := 126) hx hb dX12_fillsFar_20 (by decide) ?_
          refine lv_bipush (v := 7) hx hb dX12_fillsFar_22 (by decide) ?_
          refine lv_iload_n hx hb dX12_fillsFar_24 rfl (lv_at hl 1 rfl) ?_
          refine lv_imul hx hb dX12_fillsFar_25 ?_
          refine lv_topi (fun v25 e_v25 => ?_)
          have e_v25 : v25.toInt = 7 * p2_l1.toInt := ml_i e_v25 li_7 rfl (by omega) (by omega)
          refine lv_iadd hx hb dX12_fillsFar_26 ?_
          refine lv_topi (fun v26 e_v26 => ?_)
          have e_v26 : v26.toInt = 126 + v25.toInt := ad_i e_v26 li_126 rfl (by omega) (by omega)
          refine lv_iload_n hx hb dX12_fillsFar_27 rfl (lv_at hl 2 rfl) ?_
          refine lv_iadd hx hb dX12_fillsFar_28 ?_
          refine lv_topi (fun v28 e_v28 => ?_)
          have e_v28 : v28.toInt = v26.toInt + p10_l2.toInt := ad_i e_v28 rfl rfl (by omega) (by omega)
          refine t_iald hx hb hw k_v17 rfl rfl (by omega) (show v28.toInt < 306 by omega) dX12_fillsFar_29 (fun v29 r_v29 s_v29 q_v29 => ?_)
          have l_v29 := i32_lo v29
          have h_v29 := i32_hi v29
          refine lv_istore_n (lv' := [(3, .int v29), (0, .ref a0), (1, .int p2_l1), (2, .int p10_l2)]) hx hb dX12_fillsFar_30 rfl hl (by decide) rfl (fun ls hl => ?_)
          refine lv_aload_n hx hb dX12_fillsFar_31 rfl (lv_at hl 1 rfl) ?_
          refine t_getk (ci := 12) (C := RX12) (T := TX12) (N := 38) hx hb hts iX12 hown hw rfl 20 (by decide) (hts _ tw_1145) (fun _ h9 => h9) dX12_fillsFar_32 f_a0_X12_20 ?_
          refine lv_sipush (v := 175) hx hb dX12_fillsFar_35 (by decide) ?_
          refine lv_bipush (v := 7) hx hb dX12_fillsFar_38 (by decide) ?_
          refine lv_iload_n hx hb dX12_fillsFar_40 rfl (lv_at hl 2 rfl) ?_
          refine lv_imul hx hb dX12_fillsFar_41 ?_
          refine lv_topi (fun v41 e_v41 => ?_)
          have e_v41 : v41.toInt = 7 * p2_l1.toInt := ml_i e_v41 li_7 rfl (by omega) (by omega)
          refine lv_iadd hx hb dX12_fillsFar_42 ?_
          refine lv_topi (fun v42 e_v42 => ?_)
          have e_v42 : v42.toInt = 175 + v41.toInt := ad_i e_v42 li_175 rfl (by omega) (by omega)
          refine lv_iload_n hx hb dX12_fillsFar_43 rfl (lv_at hl 3 rfl) ?_
          refine lv_iadd hx hb dX12_fillsFar_44 ?_
          refine lv_topi (fun v44 e_v44 => ?_)
          have e_v44 : v44.toInt = v42.toInt + p10_l2.toInt := ad_i e_v44 rfl rfl (by omega) (by omega)
          refine lv_iload_n hx hb dX12_fillsFar_45 rfl (lv_at hl 2 rfl) ?_
          refine lv_iload_n hx hb dX12_fillsFar_46 rfl (lv_at hl 3 rfl) ?_
          have J65 : ∀ (H : Heap) (locs : List Loc) (ls : Array Slot) (w65 : va_W) (p65_s0 : Int32), tW (dC, dI) tys κ B A s w65 H locs → Sm [] [63] κ ws w65 → 0 ≤ p65_s0.toInt → p65_s0.toInt ≤ 2147483647 → fld w65 a0 12 20 (.ref v17) → lv_has ls 5 [(0, .ref a0), (1, .int p2_l1), (2, .int p10_l2), (3, .int v29)] → W p l e (headSpec (ws_u yX12_fillsFar cX12_fillsFar 5 none) ({ frames := 1, cells := 0, slots := 0, locals := 22 })).room s m ([.ref a0] : List Value).toArray below meth c H locs 0 0 QQ (F0 m 65 ls [.int p65_s0, .int v44, .ref v17]) := by
            intro H locs ls w65 p65_s0 hw hM l_p65_s0 h_p65_s0 f_a0_X12_20 hl
            refine t_iast hx hb hw k_v17 rfl rfl (by omega) (show v44.toInt < 306 by omega) (by rw [fr_63 (by omega) (by omega)]; exact i32_lo _) (by rw [fr_63 (by omega) (by omega)]; exact i32_hi _) dX12_fillsFar_65 (fun w_5 H locs hw u => ?_)
            have hM := hM.up3 u k_v17 (by decide)
            have f_a0_X12_20 := u.1 _ _ _ _ f_a0_X12_20
            obtain ⟨v66, e_v66⟩ : ∃ y : Int32, y = p10_l2 + 1 := ⟨_, rfl⟩
            refine lv_iinc (v := v66) (lv' := [(2, .int v66), (0, .ref a0), (1, .int p2_l1), (3, .int v29)]) hx hb dX12_fillsFar_66 hl (k := 2) rfl e_v66.symm (by decide) rfl (fun ls hl => ?_)
            have e_v66 : v66.toInt = p10_l2.toInt + 1 := ad_i e_v66 rfl li_1 (by omega) (by omega)
            refine lv_goto (tgt := 10) hx hb dX12_fillsFar_69 (by decide) ?_
            exact ih_10 _ _ _ _ (by omega) ⟨w_5, v66, hw, hM, (by omega), (by omega), (lv_sub hl [1, 2, 0] rfl), rfl⟩
          refine lv_icmp_ne (tgt := 54) hx hb dX12_fillsFar_47 (by decide) (fun c_47 => ?_) (fun c_47 => ?_)
          · simp only [fa_lt, fa_le, fa_eq] at c_47
            refine lv_iload_n hx hb dX12_fillsFar_54 rfl (lv_at hl 0 rfl) ?_
            refine lv_if_le (tgt := 62) hx hb dX12_fillsFar_55 (by decide) (fun c_55 => ?_) (fun c_55 => ?_)
            · simp only [fa_lt, fa_le, fa_eq, li_0] at c_55
              refine lv_sipush (v := 999) hx hb dX12_fillsFar_62 (by decide) ?_
              exact J65 _ _ _ w10 999 hw hM (by decide) (by decide) f_a0_X12_20 (lv_sub hl [1, 2, 3, 0] rfl)
            · simp only [fa_lt, fa_le, fa_eq, li_0] at c_55
              refine lv_iload_n hx hb dX12_fillsFar_58 rfl (lv_at hl 0 rfl) ?_
              refine lv_goto (tgt := 65) hx hb dX12_fillsFar_59 (by decide) ?_
              exact J65 _ _ _ w10 v29 hw hM (by omega) (by omega) f_a0_X12_20 (lv_sub hl [1, 2, 3, 0] rfl)
          · simp only [fa_lt, fa_le, fa_eq] at c_47
            refine lv_iconst (v := 0) hx hb dX12_fillsFar_50 (by decide) ?_
            refine lv_goto (tgt := 65) hx hb dX12_fillsFar_51 (by decide) ?_
            exact J65 _ _ _ w10 0 hw hM (by decide) (by decide) f_a0_X12_20 (lv_sub hl [1, 2, 3, 0] rfl)
      exact J10 _ _ _ _ ⟨w2, 0, hw, hM, (by decide), (by decide), (lv_sub hl [1, 2, 0] rfl), rfl⟩
  exact J2 _ _ _ _ ⟨ws, 0, hw, hM, (by decide), (by decide), (lv_sub hl [1, 0] rfl), rfl⟩
set_option maxHeartbeats 4000000 in
set_option maxRecDepth 100000 in
theorem t_X12_isBoyHere (l : Launch) (dC : Nat → ClassId) (dI : Nat → Nat → Nat) (tys : List (ClassId × FieldType)) (κ : tK) (B : Nat) (ws : va_W) (hT : Ty κ tys B ws) (a0 : Nat) (k_a0 : κ a0 = some 12) (a1 : Int32) (l_a1 : 0 ≤ a1.toInt) (h_a1 : a1.toInt ≤ 401) (sz : Nat) : Met l yX12_isBoyHere (ws_u yX12_isBoyHere cX12_isBoyHere 3 (some .boolean)) ({ frames := 3, cells := 0, slots := 0, locals := 72 }) (va_Pc [.ref a0, .int a1] (cPre (dC, dI) tys ws sz)) (va_Qi (fun (r : Int32) (w : va_W) => 0 ≤ r.toInt ∧ r.toInt ≤ 1 ∧ Ty κ tys B w ∧ Sm [(12, 8), (12, 9), (12, 10)] [59] κ ws w) (fun w t => cPost (dC, dI) tys w (va_A ws sz) t) (va_A ws sz)) 0 0 (va_A ws sz) := by
  refine Met.ofW (cc := cX12_isBoyHere) (maxL := 3) (ret := (some .boolean)) (by decide) rfl ?_
  intro p e s m args below meth c s₁ B0 hml hv
  obtain ⟨rfl, hsz, hP, hK, hD0, hE⟩ := hv
  have hx := B0.exec
  have hb := B0.bytes
  have hr := B0.returns
  have hts0 := atoms_spec (ws := ws_u yX12_isBoyHere cX12_isBoyHere 3 (some .boolean)) B0.pre
  have hts : ∀ w ∈ gT, w.before _ s = true := fun w h => hts0 w (List.mem_cons_of_mem _ h)
  have hown : s.vm.findClass RX12 = some m.cls := findClass_of_methodNamed B0.named
  have hlocks := B0.notSynchronized
  subst hsz
  have hD := hD0.self (sz := s.heap.size)
  generalize hAe : va_A ws s.heap.size = A at hD ⊢
  have hA : ∀ q : Nat, s.heap.size ≤ q → A q := fun q h => by rw [← hAe]; exact Or.inr h
  have hw : tW (dC, dI) tys κ B A s ws s.heap [] := ⟨hK, hP, hD, va_S.rf, hT⟩
  have hM : Sm [(12, 8), (12, 9), (12, 10)] [59] κ ws ws := Sm.rf
  clear hP hK hD hD0 hts0
  have hl := lv_entry ([.ref a0, .int a1]) (n := 3) (Nat.le_of_ble_eq_true rfl)
  rw [lg_entry_eq]
  generalize (lg_sl ([.ref a0, .int a1]) ++ List.replicate (3 - (lg_sl ([.ref a0, .int a1])).length) Slot.unset).toArray = ls at hl ⊢
  have hl : lv_has ls 3 [(0, .ref a0), (1, .int a1)] := hl
  refine t_start (fun QQ hQ => ?_)
  refine lv_aload_n hx hb dX12_isBoyHere_0 rfl (lv_at hl 0 rfl) ?_
  refine t_getr (k1 := 59) (ci := 12) (C := RX12) (T := TX12) (N := 38) hx hb hts iX12 hown hw k_a0 rfl rfl rfl 7 (by decide) (hts _ tw_1132) (fun _ h9 => h9) dX12_isBoyHere_1 rfl (fun v1 k_v1 f_a0_X12_7 => ?_)
  refine lv_iconst (v := 3) hx hb dX12_isBoyHere_4 (by decide) ?_
  refine t_iald hx hb hw k_v1 rfl rfl (by decide) (by decide) dX12_isBoyHere_5 (fun v5 r_v5 s_v5 f_v1_M_read_3 => ?_)
  have l_v5 : 0 ≤ v5.toInt := by rw [iv_59_3] at r_v5; exact r_v5
  have h_v5 : v5.toInt ≤ 6 := by rw [iv_59_3] at s_v5; exact s_v5
  refine lv_bipush (v := 6) hx hb dX12_isBoyHere_6 (by decide) ?_
  refine lv_icmp_ne (tgt := 18) hx hb dX12_isBoyHere_8 (by decide) (fun c_8 => ?_) (fun c_8 => ?_)
  · simp only [fa_lt, fa_le, fa_eq, li_6] at c_8
    refine lv_aload_n hx hb dX12_isBoyHere_18 rfl (lv_at hl 0 rfl) ?_
    obtain ⟨u_v19q0, q_v19q0, f_a0_X12_8⟩ := t_peek (k := 8) hw.2.2.2.2 k_a0 rfl (by decide)
    obtain ⟨v19q0, rfl, l_v19q0, h_v19q0⟩ := q_v19q0.geti (lo := 0) (hi := 401) rfl
    obtain ⟨u_v19q1, q_v19q1, f_a0_X12_1⟩ := t_peek (k := 1) hw.2.2.2.2 k_a0 rfl (by decide)
    obtain ⟨v19q1, rfl, l_v19q1, h_v19q1⟩ := q_v19q1.geti (lo := 0) (hi := 400) rfl
    refine t_callv (va_runV (As := []) (rest := []) ⟨hx, hb, hml, hown, hts⟩ (t_X12_passWord l dC dI tys κ B ws hw.2.2.2.2 a0 k_a0 v19q0 (by omega) (by omega) f_a0_X12_8 v19q1 (by omega) (by omega) f_a0_X12_1 s.heap.size) (cwV 0 hts (gUV tw_1300 tw_1302 ts_3_10 tw_13 tw_1303) rfl rfl rfl (by decide +kernel) ⟨(Nat.le_of_ble_eq_true rfl), (Nat.le_of_ble_eq_true rfl)⟩) ⟨cPre.blind, t_recv hw (ci := 12) k_a0 rfl rfl, cPre.use hw.2.1 hw.1 hw.2.2.1 hE⟩ rfl rfl hl.1 rfl (lv_room (Nat.le_of_ble_eq_true rfl)) dX12_isBoyHere_19 ⟨(Nat.le_of_ble_eq_true rfl), (Nat.le_of_ble_eq_true rfl)⟩) hw hA (fun _ h => h.1) (fun w_1 H locs hp hw => ?_)
    obtain ⟨_, hm, ⟨v19n, l_v19n, h_v19n, f_a0_X12_8, y_v19⟩⟩ := hp
    have hM := hM.trans hm (by decide) (by decide)
    have f_a0_X12_7 := hm.1 _ _ _ _ f_a0_X12_7 (by decide)
    have f_v1_M_read_3 := hm.elt k_v1 (by decide) f_v1_M_read_3
    have f_a0_X12_1 := hm.1 _ _ _ _ f_a0_X12_1 (by decide)
    refine lv_bipush (v := 58) hx hb dX12_isBoyHere_22 (by decide) ?_
    refine lv_iconst (v := 2) hx hb dX12_isBoyHere_24 (by decide) ?_
    refine lv_aload_n hx hb dX12_isBoyHere_25 rfl (lv_at hl 0 rfl) ?_
    refine t_getk (ci := 12) (C := RX12) (T := TX12) (N := 38) hx hb hts iX12 hown hw rfl 7 (by decide) (hts _ tw_1132) (fun _ h9 => h9) dX12_isBoyHere_26 f_a0_X12_7 ?_
    refine lv_iconst (v := 3) hx hb dX12_isBoyHere_29 (by decide) ?_
    refine t_ialdk hx hb hw k_v1 rfl rfl (by decide) (by decide) f_v1_M_read_3 dX12_isBoyHere_30 ?_
    refine lv_imul hx hb dX12_isBoyHere_31 ?_
    refine lv_topi (fun v31 e_v31 => ?_)
    have e_v31 : v31.toInt = 2 * v5.toInt := ml_i e_v31 li_2 rfl (by omega) (by omega)
    refine lv_iadd hx hb dX12_isBoyHere_32 ?_
    refine lv_topi (fun v32 e_v32 => ?_)
    have e_v32 : v32.toInt = 58 + v31.toInt := ad_i e_v32 li_58 rfl (by omega) (by omega)
    refine lv_istore_n (lv' := [(2, .int v32), (0, .ref a0), (1, .int a1)]) hx hb dX12_isBoyHere_33 rfl hl (by decide) rfl (fun ls hl => ?_)
    refine lv_aload_n hx hb dX12_isBoyHere_34 rfl (lv_at hl 1 rfl) ?_
    refine lv_iload_n hx hb dX12_isBoyHere_35 rfl (lv_at hl 0 rfl) ?_
    refine lv_iconst (v := 1) hx hb dX12_isBoyHere_36 (by decide) ?_
    refine lv_bipush (v := 99) hx hb dX12_isBoyHere_37 (by decide) ?_
    obtain ⟨v39q3, r_v39q3, s_v39q3, f_v1_M_read_0⟩ := t_peeke (i := (0 : Int32)) hw.2.2.2.2 k_v1 rfl (by decide)
    have l_v39q3 : 0 ≤ v39q3.toInt := by rw [iv_59_0] at r_v39q3; exact r_v39q3
    have h_v39q3 : v39q3.toInt ≤ 1 := by rw [iv_59_0] at s_v39q3; exact s_v39q3
    obtain ⟨v39q5, r_v39q5, s_v39q5, f_v1_M_read_4⟩ := t_peeke (i := (4 : Int32)) hw.2.2.2.2 k_v1 rfl (by decide)
    have l_v39q5 : 0 ≤ v39q5.toInt := by rw [iv_59_4] at r_v39q5; exact r_v39q5
    have h_v39q5 : v39q5.toInt ≤ 4 := by rw [iv_59_4] at s_v39q5; exact s_v39q5
    obtain ⟨v39q6, r_v39q6, s_v39q6, f_v1_M_read_5⟩ := t_peeke (i := (5 : Int32)) hw.2.2.2.2 k_v1 rfl (by decide)
    have l_v39q6 : 0 ≤ v39q6.toInt := by rw [iv_59_5] at r_v39q6; exact r_v39q6
    have h_v39q6 : v39q6.toInt ≤ 6 := by rw [iv_59_5] at s_v39q6; exact s_v39q6
    obtain ⟨u_v39q7, q_v39q7, f_a0_X12_10⟩ := t_peek (k := 10) hw.2.2.2.2 k_a0 rfl (by decide)
    obtain ⟨v39q7, rfl, l_v39q7, h_v39q7⟩ := q_v39q7.geti (lo := (-2147483648)) (hi := 2147483647) rfl
    refine t_calli (va_runV (As := [.int v32, .int 1, .int 99]) (rest := []) ⟨hx, hb, hml, hown, hts⟩ (t_X12_cellHere l dC dI tys κ B w_1 hw.2.2.2.2 a0 k_a0 v32 (by omega) (by omega) 1 (by decide) (by decide) 99 (by decide) (by decide) v19n (by omega) (by omega) f_a0_X12_8 v19q1 (by omega) (by omega) f_a0_X12_1 v1 k_v1 f_a0_X12_7 v39q3 (by omega) (by omega) f_v1_M_read_0 v5 (by omega) (by omega) f_v1_M_read_3 v39q5 (by omega) (by omega) f_v1_M_read_4 v39q6 (by omega) (by omega) f_v1_M_read_5 v39q7 f_a0_X12_10 (by have := li_1; have := li_99; omega) H.size) (cwV 3 hts (gUV tw_1304 tw_1306 ts_3_11 tw_13 tw_1307) rfl rfl rfl (by decide +kernel) ⟨(Nat.le_of_ble_eq_true rfl), (Nat.le_of_ble_eq_true rfl)⟩) ⟨cPre.blind, t_recv hw (ci := 12) k_a0 rfl rfl, cPre.use hw.2.1 hw.1 hw.2.2.1 hE⟩ rfl rfl hl.1 rfl (lv_room (Nat.le_of_ble_eq_true rfl)) dX12_isBoyHere_39 ⟨(Nat.le_of_ble_eq_true rfl), (Nat.le_of_ble_eq_true rfl)⟩) hw hA (fun _ _ h => h.2.2.1) (fun v39 w_2 H locs hp hw => ?_)
    obtain ⟨l_v39, h_v39, _, hm, f_v1_M_read_0, f_v1_M_read_3, f_v1_M_read_4, f_v1_M_read_5, ⟨v39n, v39m, l_v39n, h_v39n, l_v39m, h_v39m, f_a0_X12_8, f_a0_X12_10, y_v39⟩⟩ := hp
    have zc_1 := li_1
    have zc_99 := li_99
    have hM := hM.trans hm (by decide) (by decide)
    have f_a0_X12_7 := hm.1 _ _ _ _ f_a0_X12_7 (by decide)
    have f_a0_X12_1 := hm.1 _ _ _ _ f_a0_X12_1 (by decide)
    refine lv_if_eq (tgt := 77) hx hb dX12_isBoyHere_42 (by decide) (fun c_42 => ?_) (fun c_42 => ?_)
    · simp only [fa_lt, fa_le, fa_eq, li_0] at c_42
      refine lv_iconst (v := 0) hx hb dX12_isBoyHere_77 (by decide) ?_
      rw [hQ]
      refine W.widen (k := 0) (n := 0) (Nat.le_refl _) (Nat.le_refl _) ?_
      exact W.zret (v := 0) hx hb hr rfl (fun t ht hW => ⟨⟨0, w_2, rfl, ⟨(by decide), (by decide), hw.2.2.2.2, hM⟩, by rw [ht]; exact hw.2.1, va_K.moved hW.alike hw.1, hw.2.2.1⟩, hw.2.2.2.1.F ht⟩) hw.2.2.2.1.2.2 dX12_isBoyHere_78
    · simp only [fa_lt, fa_le, fa_eq, li_0] at c_42
      refine lv_aload_n hx hb dX12_isBoyHere_45 rfl (lv_at hl 1 rfl) ?_
      refine lv_iload_n hx hb dX12_isBoyHere_46 rfl (lv_at hl 0 rfl) ?_
      refine lv_iconst (v := 1) hx hb dX12_isBoyHere_47 (by decide) ?_
      refine lv_iadd hx hb dX12_isBoyHere_48 ?_
      refine lv_topi (fun v48 e_v48 => ?_)
      have e_v48 : v48.toInt = v32.toInt + 1 := ad_i e_v48 rfl li_1 (by omega) (by omega)
      refine lv_iconst (v := 0) hx hb dX12_isBoyHere_49 (by decide) ?_
      refine lv_bipush (v := 20) hx hb dX12_isBoyHere_50 (by decide) ?_
      refine t_calli (va_runV (As := [.int v48, .int 0, .int 20]) (rest := []) ⟨hx, hb, hml, hown, hts⟩ (t_X12_cellHere l dC dI tys κ B w_2 hw.2.2.2.2 a0 k_a0 v48 (by omega) (by omega) 0 (by decide) (by decide) 20 (by decide) (by decide) v39n (by omega) (by omega) f_a0_X12_8 v19q1 (by omega) (by omega) f_a0_X12_1 v1 k_v1 f_a0_X12_7 v39q3 (by omega) (by omega) f_v1_M_read_0 v5 (by omega) (by omega) f_v1_M_read_3 v39q5 (by omega) (by omega) f_v1_M_read_4 v39q6 (by omega) (by omega) f_v1_M_read_5 v39m f_a0_X12_10 (by have := li_0; have := li_20; omega) H.size) (cwV 3 hts (gUV tw_1304 tw_1306 ts_3_11 tw_13 tw_1307) rfl rfl rfl (by decide +kernel) ⟨(Nat.le_of_ble_eq_true rfl), (Nat.le_of_ble_eq_true rfl)⟩) ⟨cPre.blind, t_recv hw (ci := 12) k_a0 rfl rfl, cPre.use hw.2.1 hw.1 hw.2.2.1 hE⟩ rfl rfl hl.1 rfl (lv_room (Nat.le_of_ble_eq_true rfl)) dX12_isBoyHere_52 ⟨(Nat.le_of_ble_eq_true rfl), (Nat.le_of_ble_eq_true rfl)⟩) hw hA (fun _ _ h => h.2.2.1) (fun v52 w_3 H locs hp hw => ?_)
      obtain ⟨l_v52, h_v52, _, hm, f_v1_M_read_0, f_v1_M_read_3, f_v1_M_read_4, f_v1_M_read_5, ⟨v52n, v52m, l_v52n, h_v52n, l_v52m, h_v52m, f_a0_X12_8, f_a0_X12_10, y_v52⟩⟩ := hp
      have zc_0 := li_0
      have zc_20 := li_20
      have hM := hM.trans hm (by decide) (by decide)
      have f_a0_X12_7 := hm.1 _ _ _ _ f_a0_X12_7 (by decide)
      have f_a0_X12_1 := hm.1 _ _ _ _ f_a0_X12_1 (by decide)
      refine lv_if_eq (tgt := 77) hx hb dX12_isBoyHere_55 (by decide) (fun c_55 => ?_) (fun c_55 => ?_)
      · simp only [fa_lt, fa_le, fa_eq, li_0] at c_55
        refine lv_iconst (v := 0) hx hb dX12_isBoyHere_77 (by decide) ?_
        rw [hQ]
        refine W.widen (k := 0) (n := 0) (Nat.le_refl _) (Nat.le_refl _) ?_
        exact W.zret (v := 0) hx hb hr rfl (fun t ht hW => ⟨⟨0, w_3, rfl, ⟨(by decide), (by decide), hw.2.2.2.2, hM⟩, by rw [ht]; exact hw.2.1, va_K.moved hW.alike hw.1, hw.2.2.1⟩, hw.2.2.2.1.F ht⟩) hw.2.2.2.1.2.2 dX12_isBoyHere_78
      · simp only [fa_lt, fa_le, fa_eq, li_0] at c_55
        refine lv_aload_n hx hb dX12_isBoyHere_58 rfl (lv_at hl 1 rfl) ?_
        refine lv_bipush (v := 52) hx hb dX12_isBoyHere_59 (by decide) ?_
        refine lv_aload_n hx hb dX12_isBoyHere_61 rfl (lv_at hl 1 rfl) ?_
        refine t_getk (ci := 12) (C := RX12) (T := TX12) (N := 38) hx hb hts iX12 hown hw rfl 7 (by decide) (hts _ tw_1132) (fun _ h9 => h9) dX12_isBoyHere_62 f_a0_X12_7 ?_
        refine lv_iconst (v := 3) hx hb dX12_isBoyHere_65 (by decide) ?_
        refine t_ialdk hx hb hw k_v1 rfl rfl (by decide) (by decide) f_v1_M_read_3 dX12_isBoyHere_66 ?_
        refine lv_iadd hx hb dX12_isBoyHere_67 ?_
        refine lv_topi (fun v67 e_v67 => ?_)
        have e_v67 : v67.toInt = 52 + v5.toInt := ad_i e_v67 li_52 rfl (by omega) (by omega)
        refine lv_iconst (v := 0) hx hb dX12_isBoyHere_68 (by decide) ?_
        refine lv_bipush (v := 9) hx hb dX12_isBoyHere_69 (by decide) ?_
        refine t_calli (va_runV (As := [.int v67, .int 0, .int 9]) (rest := []) ⟨hx, hb, hml, hown, hts⟩ (t_X12_cellHere l dC dI tys κ B w_3 hw.2.2.2.2 a0 k_a0 v67 (by omega) (by omega) 0 (by decide) (by decide) 9 (by decide) (by decide) v52n (by omega) (by omega) f_a0_X12_8 v19q1 (by omega) (by omega) f_a0_X12_1 v1 k_v1 f_a0_X12_7 v39q3 (by omega) (by omega) f_v1_M_read_0 v5 (by omega) (by omega) f_v1_M_read_3 v39q5 (by omega) (by omega) f_v1_M_read_4 v39q6 (by omega) (by omega) f_v1_M_read_5 v52m f_a0_X12_10 (by have := li_0; have := li_9; omega) H.size) (cwV 3 hts (gUV tw_1304 tw_1306 ts_3_11 tw_13 tw_1307) rfl rfl rfl (by decide +kernel) ⟨(Nat.le_of_ble_eq_true rfl), (Nat.le_of_ble_eq_true rfl)⟩) ⟨cPre.blind, t_recv hw (ci := 12) k_a0 rfl rfl, cPre.use hw.2.1 hw.1 hw.2.2.1 hE⟩ rfl rfl hl.1 rfl (lv_room (Nat.le_of_ble_eq_true rfl)) dX12_isBoyHere_71 ⟨(Nat.le_of_ble_eq_true rfl), (Nat.le_of_ble_eq_true rfl)⟩) hw hA (fun _ _ h => h.2.2.1) (fun v71 w_4 H locs hp hw => ?_)
        obtain ⟨l_v71, h_v71, _, hm, f_v1_M_read_0, f_v1_M_read_3, f_v1_M_read_4, f_v1_M_read_5, ⟨v71n, v71m, l_v71n, h_v71n, l_v71m, h_v71m, f_a0_X12_8, f_a0_X12_10, y_v71⟩⟩ := hp
        have zc_0 := li_0
        have zc_9 := li_9
        have hM := hM.trans hm (by decide) (by decide)
        have f_a0_X12_7 := hm.1 _ _ _ _ f_a0_X12_7 (by decide)
        have f_a0_X12_1 := hm.1 _ _ _ _ f_a0_X12_1 (by decide)
        refine lv_if_ne (tgt := 79) hx hb dX12_isBoyHere_74 (by decide) (fun c_74 => ?_) (fun c_74 => ?_)
        · simp only [fa_lt, fa_le, fa_eq, li_0] at c_74
          refine lv_aload_n hx hb dX12_isBoyHere_79 rfl (lv_at hl 1 rfl) ?_
          refine t_getk (ci := 12) (C := RX12) (T := TX12) (N := 38) hx hb hts iX12 hown hw rfl 7 (by decide) (hts _ tw_1132) (fun _ h9 => h9) dX12_isBoyHere_80 f_a0_X12_7 ?_
          refine lv_iconst (v := 3) hx hb dX12_isBoyHere_83 (by decide) ?_
          refine lv_dup2_11 hx hb dX12_isBoyHere_84 rfl rfl ?_
          refine t_ialdk hx hb hw k_v1 rfl rfl (by decide) (by decide) f_v1_M_read_3 dX12_isBoyHere_85 ?_
          refine lv_iconst (v := 1) hx hb dX12_isBoyHere_86 (by decide) ?_
          refine lv_iadd hx hb dX12_isBoyHere_87 ?_
          refine lv_topi (fun v87 e_v87 => ?_)
          have e_v87 : v87.toInt = v5.toInt + 1 := ad_i e_v87 rfl li_1 (by omega) (by omega)
          refine t_iast hx hb hw k_v1 rfl rfl (by decide) (by decide) (by rw [iv_59_3]; exact (show 0 ≤ v87.toInt by omega)) (by rw [iv_59_3]; exact (show v87.toInt ≤ 6 by omega)) dX12_isBoyHere_88 (fun w_5 H locs hw u => ?_)
          have hM := hM.up3 u k_v1 (by decide)
          have f_a0_X12_7 := u.1 _ _ _ _ f_a0_X12_7
          have f_a0_X12_1 := u.1 _ _ _ _ f_a0_X12_1
          have f_v1_M_read_0 := u.2.2.1 _ _ _ f_v1_M_read_0 (Or.inr (by decide))
          have f_v1_M_read_3 := u.2.2.2
          have f_v1_M_read_4 := u.2.2.1 _ _ _ f_v1_M_read_4 (Or.inr (by decide))
          have f_v1_M_read_5 := u.2.2.1 _ _ _ f_v1_M_read_5 (Or.inr (by decide))
          have f_a0_X12_8 := u.1 _ _ _ _ f_a0_X12_8
          have f_a0_X12_10 := u.1 _ _ _ _ f_a0_X12_10
          refine lv_iconst (v := 1) hx hb dX12_isBoyHere_89 (by decide) ?_
          rw [hQ]
          refine W.widen (k := 0) (n := 0) (Nat.le_refl _) (Nat.le_refl _) ?_
          exact W.zret (v := 1) hx hb hr rfl (fun t ht hW => ⟨⟨1, w_5, rfl, ⟨(by decide), (by decide), hw.2.2.2.2, hM⟩, by rw [ht]; exact hw.2.1, va_K.moved hW.alike hw.1, hw.2.2.1⟩, hw.2.2.2.1.F ht⟩) hw.2.2.2.1.2.2 dX12_isBoyHere_90
        · simp only [fa_lt, fa_le, fa_eq, li_0] at c_74
          refine lv_iconst (v := 0) hx hb dX12_isBoyHere_77 (by decide) ?_
          rw [hQ]
          refine W.widen (k := 0) (n := 0) (Nat.le_refl _) (Nat.le_refl _) ?_
          exact W.zret (v := 0) hx hb hr rfl (fun t ht hW => ⟨⟨0, w_4, rfl, ⟨(by decide), (by decide), hw.2.2.2.2, hM⟩, by rw [ht]; exact hw.2.1, va_K.moved hW.alike hw.1, hw.2.2.1⟩, hw.2.2.2.1.F ht⟩) hw.2.2.2.1.2.2 dX12_isBoyHere_78
  · simp only [fa_lt, fa_le, fa_eq, li_6] at c_8
    refine lv_aload_n hx hb dX12_isBoyHere_11 rfl (lv_at hl 0 rfl) ?_
    refine lv_iconst (v := 4) hx hb dX12_isBoyHere_12 (by decide) ?_
    refine lv_iload_n hx hb dX12_isBoyHere_13 rfl (lv_at hl 1 rfl) ?_
    refine t_calli (va_runV (As := [.int 4, .int a1]) (rest := []) ⟨hx, hb, hml, hown, hts⟩ (t_X12_fails l dC dI tys κ B ws hw.2.2.2.2 a0 k_a0 4 (by decide) (by decide) a1 (by omega) (by omega) s.heap.size) (cwV 2 hts (gUV tw_1288 tw_1290 ts_3_7 tw_13 tw_1291) rfl rfl rfl (by decide +kernel) ⟨(Nat.le_of_ble_eq_true rfl), (Nat.le_of_ble_eq_true rfl)⟩) ⟨cPre.blind, t_recv hw (ci := 12) k_a0 rfl rfl, cPre.use hw.2.1 hw.1 hw.2.2.1 hE⟩ rfl rfl hl.1 rfl (lv_room (Nat.le_of_ble_eq_true rfl)) dX12_isBoyHere_14 ⟨(Nat.le_of_ble_eq_true rfl), (Nat.le_of_ble_eq_true rfl)⟩) hw hA (fun _ _ h => h.2.2.1) (fun v14 w_6 H locs hp hw => ?_)
    obtain ⟨l_v14, h_v14, _, hm⟩ := hp
    have hM := hM.trans hm (by decide) (by decide)
    have f_a0_X12_7 := hm.1 _ _ _ _ f_a0_X12_7 (by decide)
    have f_v1_M_read_3 := hm.elt k_v1 (by decide) f_v1_M_read_3
    rw [hQ]
    refine W.widen (k := 0) (n := 0) (Nat.le_refl _) (Nat.le_refl _) ?_
    exact W.zret (v := v14) hx hb hr (nb_i (by omega) (by omega)) (fun t ht hW => ⟨⟨v14, w_6, rfl, ⟨(by omega), (by omega), hw.2.2.2.2, hM⟩, by rw [ht]; exact hw.2.1, va_K.moved hW.alike hw.1, hw.2.2.1⟩, hw.2.2.2.1.F ht⟩) hw.2.2.2.1.2.2 dX12_isBoyHere_17
set_option maxHeartbeats 4000000 in
set_option maxRecDepth 100000 in
theorem t_X12_isCanonHere (l : Launch) (dC : Nat → ClassId) (dI : Nat → Nat → Nat) (tys : List (ClassId × FieldType)) (κ : tK) (B : Nat) (ws : va_W) (hT : Ty κ tys B ws) (a0 : Nat) (k_a0 : κ a0 = some 12) (a1 : Int32) (l_a1 : 0 ≤ a1.toInt) (h_a1 : a1.toInt ≤ 401) (sz : Nat) : Met l yX12_isCanonHere (ws_u yX12_isCanonHere cX12_isCanonHere 2 (some .boolean)) ({ frames := 3, cells := 0, slots := 0, locals := 72 }) (va_Pc [.ref a0, .int a1] (cPre (dC, dI) tys ws sz)) (va_Qi (fun (r : Int32) (w : va_W) => 0 ≤ r.toInt ∧ r.toInt ≤ 1 ∧ Ty κ tys B w ∧ Sm [(12, 8), (12, 9), (12, 10)] [59] κ ws w) (fun w t => cPost (dC, dI) tys w (va_A ws sz) t) (va_A ws sz)) 0 0 (va_A ws sz) := by
  refine Met.ofW (cc := cX12_isCanonHere) (maxL := 2) (ret := (some .boolean)) (by decide) rfl ?_
  intro p e s m args below meth c s₁ B0 hml hv
  obtain ⟨rfl, hsz, hP, hK, hD0, hE⟩ := hv
  have hx := B0.exec
  have hb := B0.bytes
  have hr := B0.returns
  have hts0 := atoms_spec (ws := ws_u yX12_isCanonHere cX12_isCanonHere 2 (some .boolean)) B0.pre
  have hts : ∀ w ∈ gT, w.before _ s = true := fun w h => hts0 w (List.mem_cons_of_mem _ h)
  have hown : s.vm.findClass RX12 = some m.cls := findClass_of_methodNamed B0.named
  have hlocks := B0.notSynchronized
  subst hsz
  have hD := hD0.self (sz := s.heap.size)
  generalize hAe : va_A ws s.heap.size = A at hD ⊢
  have hA : ∀ q : Nat, s.heap.size ≤ q → A q := fun q h => by rw [← hAe]; exact Or.inr h
  have hw : tW (dC, dI) tys κ B A s ws s.heap [] := ⟨hK, hP, hD, va_S.rf, hT⟩
  have hM : Sm [(12, 8), (12, 9), (12, 10)] [59] κ ws ws := Sm.rf
  clear hP hK hD hD0 hts0
  have hl := lv_entry ([.ref a0, .int a1]) (n := 2) (Nat.le_of_ble_eq_true rfl)
  rw [lg_entry_eq]
  generalize (lg_sl ([.ref a0, .int a1]) ++ List.replicate (2 - (lg_sl ([.ref a0, .int a1])).length) Slot.unset).toArray = ls at hl ⊢
  have hl : lv_has ls 2 [(0, .ref a0), (1, .int a1)] := hl
  refine t_start (fun QQ hQ => ?_)
  refine lv_aload_n hx hb dX12_isCanonHere_0 rfl (lv_at hl 0 rfl) ?_
  refine t_getr (k1 := 59) (ci := 12) (C := RX12) (T := TX12) (N := 38) hx hb hts iX12 hown hw k_a0 rfl rfl rfl 7 (by decide) (hts _ tw_1132) (fun _ h9 => h9) dX12_isCanonHere_1 rfl (fun v1 k_v1 f_a0_X12_7 => ?_)
  refine lv_iconst (v := 4) hx hb dX12_isCanonHere_4 (by decide) ?_
  refine t_iald hx hb hw k_v1 rfl rfl (by decide) (by decide) dX12_isCanonHere_5 (fun v5 r_v5 s_v5 f_v1_M_read_4 => ?_)
  have l_v5 : 0 ≤ v5.toInt := by rw [iv_59_4] at r_v5; exact r_v5
  have h_v5 : v5.toInt ≤ 4 := by rw [iv_59_4] at s_v5; exact s_v5
  refine lv_iconst (v := 4) hx hb dX12_isCanonHere_6 (by decide) ?_
  refine lv_icmp_ne (tgt := 17) hx hb dX12_isCanonHere_7 (by decide) (fun c_7 => ?_) (fun c_7 => ?_)
  · simp only [fa_lt, fa_le, fa_eq, li_4] at c_7
    refine lv_aload_n hx hb dX12_isCanonHere_17 rfl (lv_at hl 0 rfl) ?_
    obtain ⟨u_v18q0, q_v18q0, f_a0_X12_8⟩ := t_peek (k := 8) hw.2.2.2.2 k_a0 rfl (by decide)
    obtain ⟨v18q0, rfl, l_v18q0, h_v18q0⟩ := q_v18q0.geti (lo := 0) (hi := 401) rfl
    obtain ⟨u_v18q1, q_v18q1, f_a0_X12_1⟩ := t_peek (k := 1) hw.2.2.2.2 k_a0 rfl (by decide)
    obtain ⟨v18q1, rfl, l_v18q1, h_v18q1⟩ := q_v18q1.geti (lo := 0) (hi := 400) rfl
    refine t_callv (va_runV (As := []) (rest := []) ⟨hx, hb, hml, hown, hts⟩ (t_X12_passWord l dC dI tys κ B ws hw.2.2.2.2 a0 k_a0 v18q0 (by omega) (by omega) f_a0_X12_8 v18q1 (by omega) (by omega) f_a0_X12_1 s.heap.size) (cwV 0 hts (gUV tw_1300 tw_1302 ts_3_10 tw_13 tw_1303) rfl rfl rfl (by decide +kernel) ⟨(Nat.le_of_ble_eq_true rfl), (Nat.le_of_ble_eq_true rfl)⟩) ⟨cPre.blind, t_recv hw (ci := 12) k_a0 rfl rfl, cPre.use hw.2.1 hw.1 hw.2.2.1 hE⟩ rfl rfl hl.1 rfl (lv_room (Nat.le_of_ble_eq_true rfl)) dX12_isCanonHere_18 ⟨(Nat.le_of_ble_eq_true rfl), (Nat.le_of_ble_eq_true rfl)⟩) hw hA (fun _ h => h.1) (fun w_1 H locs hp hw => ?_)
    obtain ⟨_, hm, ⟨v18n, l_v18n, h_v18n, f_a0_X12_8, y_v18⟩⟩ := hp
    have hM := hM.trans hm (by decide) (by decide)
    have f_a0_X12_7 := hm.1 _ _ _ _ f_a0_X12_7 (by decide)
    have f_v1_M_read_4 := hm.elt k_v1 (by decide) f_v1_M_read_4
    have f_a0_X12_1 := hm.1 _ _ _ _ f_a0_X12_1 (by decide)
    refine lv_aload_n hx hb dX12_isCanonHere_21 rfl (lv_at hl 0 rfl) ?_
    refine lv_bipush (v := 106) hx hb dX12_isCanonHere_22 (by decide) ?_
    refine lv_aload_n hx hb dX12_isCanonHere_24 rfl (lv_at hl 0 rfl) ?_
    refine t_getk (ci := 12) (C := RX12) (T := TX12) (N := 38) hx hb hts iX12 hown hw rfl 7 (by decide) (hts _ tw_1132) (fun _ h9 => h9) dX12_isCanonHere_25 f_a0_X12_7 ?_
    refine lv_iconst (v := 4) hx hb dX12_isCanonHere_28 (by decide) ?_
    refine t_ialdk hx hb hw k_v1 rfl rfl (by decide) (by decide) f_v1_M_read_4 dX12_isCanonHere_29 ?_
    refine lv_iadd hx hb dX12_isCanonHere_30 ?_
    refine lv_topi (fun v30 e_v30 => ?_)
    have e_v30 : v30.toInt = 106 + v5.toInt := ad_i e_v30 li_106 rfl (by omega) (by omega)
    refine lv_bipush (v := 20) hx hb dX12_isCanonHere_31 (by decide) ?_
    refine lv_bipush (v := 99) hx hb dX12_isCanonHere_33 (by decide) ?_
    obtain ⟨v35q3, r_v35q3, s_v35q3, f_v1_M_read_0⟩ := t_peeke (i := (0 : Int32)) hw.2.2.2.2 k_v1 rfl (by decide)
    have l_v35q3 : 0 ≤ v35q3.toInt := by rw [iv_59_0] at r_v35q3; exact r_v35q3
    have h_v35q3 : v35q3.toInt ≤ 1 := by rw [iv_59_0] at s_v35q3; exact s_v35q3
    obtain ⟨v35q4, r_v35q4, s_v35q4, f_v1_M_read_3⟩ := t_peeke (i := (3 : Int32)) hw.2.2.2.2 k_v1 rfl (by decide)
    have l_v35q4 : 0 ≤ v35q4.toInt := by rw [iv_59_3] at r_v35q4; exact r_v35q4
    have h_v35q4 : v35q4.toInt ≤ 6 := by rw [iv_59_3] at s_v35q4; exact s_v35q4
    obtain ⟨v35q6, r_v35q6, s_v35q6, f_v1_M_read_5⟩ := t_peeke (i := (5 : Int32)) hw.2.2.2.2 k_v1 rfl (by decide)
    have l_v35q6 : 0 ≤ v35q6.toInt := by rw [iv_59_5] at r_v35q6; exact r_v35q6
    have h_v35q6 : v35q6.toInt ≤ 6 := by rw [iv_59_5] at s_v35q6; exact s_v35q6
    obtain ⟨u_v35q7, q_v35q7, f_a0_X12_10⟩ := t_peek (k := 10) hw.2.2.2.2 k_a0 rfl (by decide)
    obtain ⟨v35q7, rfl, l_v35q7, h_v35q7⟩ := q_v35q7.geti (lo := (-2147483648)) (hi := 2147483647) rfl
    refine t_calli (va_runV (As := [.int v30, .int 20, .int 99]) (rest := []) ⟨hx, hb, hml, hown, hts⟩ (t_X12_cellHere l dC dI tys κ B w_1 hw.2.2.2.2 a0 k_a0 v30 (by omega) (by omega) 20 (by decide) (by decide) 99 (by decide) (by decide) v18n (by omega) (by omega) f_a0_X12_8 v18q1 (by omega) (by omega) f_a0_X12_1 v1 k_v1 f_a0_X12_7 v35q3 (by omega) (by omega) f_v1_M_read_0 v35q4 (by omega) (by omega) f_v1_M_read_3 v5 (by omega) (by omega) f_v1_M_read_4 v35q6 (by omega) (by omega) f_v1_M_read_5 v35q7 f_a0_X12_10 (by have := li_20; have := li_99; omega) H.size) (cwV 3 hts (gUV tw_1304 tw_1306 ts_3_11 tw_13 tw_1307) rfl rfl rfl (by decide +kernel) ⟨(Nat.le_of_ble_eq_true rfl), (Nat.le_of_ble_eq_true rfl)⟩) ⟨cPre.blind, t_recv hw (ci := 12) k_a0 rfl rfl, cPre.use hw.2.1 hw.1 hw.2.2.1 hE⟩ rfl rfl hl.1 rfl (lv_room (Nat.le_of_ble_eq_true rfl)) dX12_isCanonHere_35 ⟨(Nat.le_of_ble_eq_true rfl), (Nat.le_of_ble_eq_true rfl)⟩) hw hA (fun _ _ h => h.2.2.1) (fun v35 w_2 H locs hp hw => ?_)
    obtain ⟨l_v35, h_v35, _, hm, f_v1_M_read_0, f_v1_M_read_3, f_v1_M_read_4, f_v1_M_read_5, ⟨v35n, v35m, l_v35n, h_v35n, l_v35m, h_v35m, f_a0_X12_8, f_a0_X12_10, y_v35⟩⟩ := hp
    have zc_20 := li_20
    have zc_99 := li_99
    have hM := hM.trans hm (by decide) (by decide)
    have f_a0_X12_7 := hm.1 _ _ _ _ f_a0_X12_7 (by decide)
    have f_a0_X12_1 := hm.1 _ _ _ _ f_a0_X12_1 (by decide)
    refine lv_if_eq (tgt := 60) hx hb dX12_isCanonHere_38 (by decide) (fun c_38 => ?_) (fun c_38 => ?_)
    · simp only [fa_lt, fa_le, fa_eq, li_0] at c_38
      refine lv_iconst (v := 0) hx hb dX12_isCanonHere_60 (by decide) ?_
      rw [hQ]
      refine W.widen (k := 0) (n := 0) (Nat.le_refl _) (Nat.le_refl _) ?_
      exact W.zret (v := 0) hx hb hr rfl (fun t ht hW => ⟨⟨0, w_2, rfl, ⟨(by decide), (by decide), hw.2.2.2.2, hM⟩, by rw [ht]; exact hw.2.1, va_K.moved hW.alike hw.1, hw.2.2.1⟩, hw.2.2.2.1.F ht⟩) hw.2.2.2.1.2.2 dX12_isCanonHere_61
    · simp only [fa_lt, fa_le, fa_eq, li_0] at c_38
      refine lv_aload_n hx hb dX12_isCanonHere_41 rfl (lv_at hl 0 rfl) ?_
      refine lv_bipush (v := 110) hx hb dX12_isCanonHere_42 (by decide) ?_
      refine lv_aload_n hx hb dX12_isCanonHere_44 rfl (lv_at hl 0 rfl) ?_
      refine t_getk (ci := 12) (C := RX12) (T := TX12) (N := 38) hx hb hts iX12 hown hw rfl 7 (by decide) (hts _ tw_1132) (fun _ h9 => h9) dX12_isCanonHere_45 f_a0_X12_7 ?_
      refine lv_iconst (v := 4) hx hb dX12_isCanonHere_48 (by decide) ?_
      refine t_ialdk hx hb hw k_v1 rfl rfl (by decide) (by decide) f_v1_M_read_4 dX12_isCanonHere_49 ?_
      refine lv_iadd hx hb dX12_isCanonHere_50 ?_
      refine lv_topi (fun v50 e_v50 => ?_)
      have e_v50 : v50.toInt = 110 + v5.toInt := ad_i e_v50 li_110 rfl (by omega) (by omega)
      refine lv_iconst (v := 0) hx hb dX12_isCanonHere_51 (by decide) ?_
      refine lv_bipush (v := 99) hx hb dX12_isCanonHere_52 (by decide) ?_
      refine t_calli (va_runV (As := [.int v50, .int 0, .int 99]) (rest := []) ⟨hx, hb, hml, hown, hts⟩ (t_X12_cellHere l dC dI tys κ B w_2 hw.2.2.2.2 a0 k_a0 v50 (by omega) (by omega) 0 (by decide) (by decide) 99 (by decide) (by decide) v35n (by omega) (by omega) f_a0_X12_8 v18q1 (by omega) (by omega) f_a0_X12_1 v1 k_v1 f_a0_X12_7 v35q3 (by omega) (by omega) f_v1_M_read_0 v35q4 (by omega) (by omega) f_v1_M_read_3 v5 (by omega) (by omega) f_v1_M_read_4 v35q6 (by omega) (by omega) f_v1_M_read_5 v35m f_a0_X12_10 (by have := li_0; have := li_99; omega) H.size) (cwV 3 hts (gUV tw_1304 tw_1306 ts_3_11 tw_13 tw_1307) rfl rfl rfl (by decide +kernel) ⟨(Nat.le_of_ble_eq_true rfl), (Nat.le_of_ble_eq_true rfl)⟩) ⟨cPre.blind, t_recv hw (ci := 12) k_a0 rfl rfl, cPre.use hw.2.1 hw.1 hw.2.2.1 hE⟩ rfl rfl hl.1 rfl (lv_room (Nat.le_of_ble_eq_true rfl)) dX12_isCanonHere_54 ⟨(Nat.le_of_ble_eq_true rfl), (Nat.le_of_ble_eq_true rfl)⟩) hw hA (fun _ _ h => h.2.2.1) (fun v54 w_3 H locs hp hw => ?_)
      obtain ⟨l_v54, h_v54, _, hm, f_v1_M_read_0, f_v1_M_read_3, f_v1_M_read_4, f_v1_M_read_5, ⟨v54n, v54m, l_v54n, h_v54n, l_v54m, h_v54m, f_a0_X12_8, f_a0_X12_10, y_v54⟩⟩ := hp
      have zc_0 := li_0
      have zc_99 := li_99
      have hM := hM.trans hm (by decide) (by decide)
      have f_a0_X12_7 := hm.1 _ _ _ _ f_a0_X12_7 (by decide)
      have f_a0_X12_1 := hm.1 _ _ _ _ f_a0_X12_1 (by decide)
      refine lv_if_ne (tgt := 62) hx hb dX12_isCanonHere_57 (by decide) (fun c_57 => ?_) (fun c_57 => ?_)
      · simp only [fa_lt, fa_le, fa_eq, li_0] at c_57
        refine lv_aload_n hx hb dX12_isCanonHere_62 rfl (lv_at hl 0 rfl) ?_
        refine t_getk (ci := 12) (C := RX12) (T := TX12) (N := 38) hx hb hts iX12 hown hw rfl 7 (by decide) (hts _ tw_1132) (fun _ h9 => h9) dX12_isCanonHere_63 f_a0_X12_7 ?_
        refine lv_iconst (v := 4) hx hb dX12_isCanonHere_66 (by decide) ?_
        refine lv_dup2_11 hx hb dX12_isCanonHere_67 rfl rfl ?_
        refine t_ialdk hx hb hw k_v1 rfl rfl (by decide) (by decide) f_v1_M_read_4 dX12_isCanonHere_68 ?_
        refine lv_iconst (v := 1) hx hb dX12_isCanonHere_69 (by decide) ?_
        refine lv_iadd hx hb dX12_isCanonHere_70 ?_
        refine lv_topi (fun v70 e_v70 => ?_)
        have e_v70 : v70.toInt = v5.toInt + 1 := ad_i e_v70 rfl li_1 (by omega) (by omega)
        refine t_iast hx hb hw k_v1 rfl rfl (by decide) (by decide) (by rw [iv_59_4]; exact (show 0 ≤ v70.toInt by omega)) (by rw [iv_59_4]; exact (show v70.toInt ≤ 4 by omega)) dX12_isCanonHere_71 (fun w_4 H locs hw u => ?_)
        have hM := hM.up3 u k_v1 (by decide)
        have f_a0_X12_7 := u.1 _ _ _ _ f_a0_X12_7
        have f_a0_X12_1 := u.1 _ _ _ _ f_a0_X12_1
        have f_v1_M_read_0 := u.2.2.1 _ _ _ f_v1_M_read_0 (Or.inr (by decide))
        have f_v1_M_read_3 := u.2.2.1 _ _ _ f_v1_M_read_3 (Or.inr (by decide))
        have f_v1_M_read_4 := u.2.2.2
        have f_v1_M_read_5 := u.2.2.1 _ _ _ f_v1_M_read_5 (Or.inr (by decide))
        have f_a0_X12_8 := u.1 _ _ _ _ f_a0_X12_8
        have f_a0_X12_10 := u.1 _ _ _ _ f_a0_X12_10
        refine lv_iconst (v := 1) hx hb dX12_isCanonHere_72 (by decide) ?_
        rw [hQ]
        refine W.widen (k := 0) (n := 0) (Nat.le_refl _) (Nat.le_refl _) ?_
        exact W.zret (v := 1) hx hb hr rfl (fun t ht hW => ⟨⟨1, w_4, rfl, ⟨(by decide), (by decide), hw.2.2.2.2, hM⟩, by rw [ht]; exact hw.2.1, va_K.moved hW.alike hw.1, hw.2.2.1⟩, hw.2.2.2.1.F ht⟩) hw.2.2.2.1.2.2 dX12_isCanonHere_73
      · simp only [fa_lt, fa_le, fa_eq, li_0] at c_57
        refine lv_iconst (v := 0) hx hb dX12_isCanonHere_60 (by decide) ?_
        rw [hQ]
        refine W.widen (k := 0) (n := 0) (Nat.le_refl _) (Nat.le_refl _) ?_
        exact W.zret (v := 0) hx hb hr rfl (fun t ht hW => ⟨⟨0, w_3, rfl, ⟨(by decide), (by decide), hw.2.2.2.2, hM⟩, by rw [ht]; exact hw.2.1, va_K.moved hW.alike hw.1, hw.2.2.1⟩, hw.2.2.2.1.F ht⟩) hw.2.2.2.1.2.2 dX12_isCanonHere_61
  · simp only [fa_lt, fa_le, fa_eq, li_4] at c_7
    refine lv_aload_n hx hb dX12_isCanonHere_10 rfl (lv_at hl 0 rfl) ?_
    refine lv_iconst (v := 4) hx hb dX12_isCanonHere_11 (by decide) ?_
    refine lv_iload_n hx hb dX12_isCanonHere_12 rfl (lv_at hl 1 rfl) ?_
    refine t_calli (va_runV (As := [.int 4, .int a1]) (rest := []) ⟨hx, hb, hml, hown, hts⟩ (t_X12_fails l dC dI tys κ B ws hw.2.2.2.2 a0 k_a0 4 (by decide) (by decide) a1 (by omega) (by omega) s.heap.size) (cwV 2 hts (gUV tw_1288 tw_1290 ts_3_7 tw_13 tw_1291) rfl rfl rfl (by decide +kernel) ⟨(Nat.le_of_ble_eq_true rfl), (Nat.le_of_ble_eq_true rfl)⟩) ⟨cPre.blind, t_recv hw (ci := 12) k_a0 rfl rfl, cPre.use hw.2.1 hw.1 hw.2.2.1 hE⟩ rfl rfl hl.1 rfl (lv_room (Nat.le_of_ble_eq_true rfl)) dX12_isCanonHere_13 ⟨(Nat.le_of_ble_eq_true rfl), (Nat.le_of_ble_eq_true rfl)⟩) hw hA (fun _ _ h => h.2.2.1) (fun v13 w_5 H locs hp hw => ?_)
    obtain ⟨l_v13, h_v13, _, hm⟩ := hp
    have hM := hM.trans hm (by decide) (by decide)
    have f_a0_X12_7 := hm.1 _ _ _ _ f_a0_X12_7 (by decide)
    have f_v1_M_read_4 := hm.elt k_v1 (by decide) f_v1_M_read_4
    rw [hQ]
    refine W.widen (k := 0) (n := 0) (Nat.le_refl _) (Nat.le_refl _) ?_
    exact W.zret (v := v13) hx hb hr (nb_i (by omega) (by omega)) (fun t ht hW => ⟨⟨v13, w_5, rfl, ⟨(by omega), (by omega), hw.2.2.2.2, hM⟩, by rw [ht]; exact hw.2.1, va_K.moved hW.alike hw.1, hw.2.2.1⟩, hw.2.2.2.1.F ht⟩) hw.2.2.2.1.2.2 dX12_isCanonHere_16
set_option maxHeartbeats 4000000 in
set_option maxRecDepth 100000 in
theorem t_X12_isChoirHere (l : Launch) (dC : Nat → ClassId) (dI : Nat → Nat → Nat) (tys : List (ClassId × FieldType)) (κ : tK) (B : Nat) (ws : va_W) (hT : Ty κ tys B ws) (a0 : Nat) (k_a0 : κ a0 = some 12) (a1 : Int32) (l_a1 : 0 ≤ a1.toInt) (h_a1 : a1.toInt ≤ 401) (sz : Nat) : Met l yX12_isChoirHere (ws_u yX12_isChoirHere cX12_isChoirHere 2 (some .boolean)) ({ frames := 3, cells := 0, slots := 0, locals := 72 }) (va_Pc [.ref a0, .int a1] (cPre (dC, dI) tys ws sz)) (va_Qi (fun (r : Int32) (w : va_W) => 0 ≤ r.toInt ∧ r.toInt ≤ 1 ∧ Ty κ tys B w ∧ Sm [(12, 8), (12, 9), (12, 10)] [59] κ ws w) (fun w t => cPost (dC, dI) tys w (va_A ws sz) t) (va_A ws sz)) 0 0 (va_A ws sz) := by
  refine Met.ofW (cc := cX12_isChoirHere) (maxL := 2) (ret := (some .boolean)) (by decide) rfl ?_
  intro p e s m args below meth c s₁ B0 hml hv
  obtain ⟨rfl, hsz, hP, hK, hD0, hE⟩ := hv
  have hx := B0.exec
  have hb := B0.bytes
  have hr := B0.returns
  have hts0 := atoms_spec (ws := ws_u yX12_isChoirHere cX12_isChoirHere 2 (some .boolean)) B0.pre
  have hts : ∀ w ∈ gT, w.before _ s = true := fun w h => hts0 w (List.mem_cons_of_mem _ h)
  have hown : s.vm.findClass RX12 = some m.cls := findClass_of_methodNamed B0.named
  have hlocks := B0.notSynchronized
  subst hsz
  have hD := hD0.self (sz := s.heap.size)
  generalize hAe : va_A ws s.heap.size = A at hD ⊢
  have hA : ∀ q : Nat, s.heap.size ≤ q → A q := fun q h => by rw [← hAe]; exact Or.inr h
  have hw : tW (dC, dI) tys κ B A s ws s.heap [] := ⟨hK, hP, hD, va_S.rf, hT⟩
  have hM : Sm [(12, 8), (12, 9), (12, 10)] [59] κ ws ws := Sm.rf
  clear hP hK hD hD0 hts0
  have hl := lv_entry ([.ref a0, .int a1]) (n := 2) (Nat.le_of_ble_eq_true rfl)
  rw [lg_entry_eq]
  generalize (lg_sl ([.ref a0, .int a1]) ++ List.replicate (2 - (lg_sl ([.ref a0, .int a1])).length) Slot.unset).toArray = ls at hl ⊢
  have hl : lv_has ls 2 [(0, .ref a0), (1, .int a1)] := hl
  refine t_start (fun QQ hQ => ?_)
  refine lv_aload_n hx hb dX12_isChoirHere_0 rfl (lv_at hl 0 rfl) ?_
  refine t_getr (k1 := 59) (ci := 12) (C := RX12) (T := TX12) (N := 38) hx hb hts iX12 hown hw k_a0 rfl rfl rfl 7 (by decide) (hts _ tw_1132) (fun _ h9 => h9) dX12_isChoirHere_1 rfl (fun v1 k_v1 f_a0_X12_7 => ?_)
  refine lv_iconst (v := 0) hx hb dX12_isChoirHere_4 (by decide) ?_
  refine t_iald hx hb hw k_v1 rfl rfl (by decide) (by decide) dX12_isChoirHere_5 (fun v5 r_v5 s_v5 f_v1_M_read_0 => ?_)
  have l_v5 : 0 ≤ v5.toInt := by rw [iv_59_0] at r_v5; exact r_v5
  have h_v5 : v5.toInt ≤ 1 := by rw [iv_59_0] at s_v5; exact s_v5
  refine lv_if_le (tgt := 16) hx hb dX12_isChoirHere_6 (by decide) (fun c_6 => ?_) (fun c_6 => ?_)
  · simp only [fa_lt, fa_le, fa_eq, li_0] at c_6
    refine lv_aload_n hx hb dX12_isChoirHere_16 rfl (lv_at hl 0 rfl) ?_
    obtain ⟨u_v17q0, q_v17q0, f_a0_X12_8⟩ := t_peek (k := 8) hw.2.2.2.2 k_a0 rfl (by decide)
    obtain ⟨v17q0, rfl, l_v17q0, h_v17q0⟩ := q_v17q0.geti (lo := 0) (hi := 401) rfl
    obtain ⟨u_v17q1, q_v17q1, f_a0_X12_1⟩ := t_peek (k := 1) hw.2.2.2.2 k_a0 rfl (by decide)
    obtain ⟨v17q1, rfl, l_v17q1, h_v17q1⟩ := q_v17q1.geti (lo := 0) (hi := 400) rfl
    refine t_callv (va_runV (As := []) (rest := []) ⟨hx, hb, hml, hown, hts⟩ (t_X12_passWord l dC dI tys κ B ws hw.2.2.2.2 a0 k_a0 v17q0 (by omega) (by omega) f_a0_X12_8 v17q1 (by omega) (by omega) f_a0_X12_1 s.heap.size) (cwV 0 hts (gUV tw_1300 tw_1302 ts_3_10 tw_13 tw_1303) rfl rfl rfl (by decide +kernel) ⟨(Nat.le_of_ble_eq_true rfl), (Nat.le_of_ble_eq_true rfl)⟩) ⟨cPre.blind, t_recv hw (ci := 12) k_a0 rfl rfl, cPre.use hw.2.1 hw.1 hw.2.2.1 hE⟩ rfl rfl hl.1 rfl (lv_room (Nat.le_of_ble_eq_true rfl)) dX12_isChoirHere_17 ⟨(Nat.le_of_ble_eq_true rfl), (Nat.le_of_ble_eq_true rfl)⟩) hw hA (fun _ h => h.1) (fun w_1 H locs hp hw => ?_)
    obtain ⟨_, hm, ⟨v17n, l_v17n, h_v17n, f_a0_X12_8, y_v17⟩⟩ := hp
    have hM := hM.trans hm (by decide) (by decide)
    have f_a0_X12_7 := hm.1 _ _ _ _ f_a0_X12_7 (by decide)
    have f_v1_M_read_0 := hm.elt k_v1 (by decide) f_v1_M_read_0
    have f_a0_X12_1 := hm.1 _ _ _ _ f_a0_X12_1 (by decide)
    refine lv_aload_n hx hb dX12_isChoirHere_20 rfl (lv_at hl 0 rfl) ?_
    refine lv_iconst (v := 1) hx hb dX12_isChoirHere_21 (by decide) ?_
    refine lv_iconst (v := 1) hx hb dX12_isChoirHere_22 (by decide) ?_
    refine lv_bipush (v := 40) hx hb dX12_isChoirHere_23 (by decide) ?_
    obtain ⟨v25q4, r_v25q4, s_v25q4, f_v1_M_read_3⟩ := t_peeke (i := (3 : Int32)) hw.2.2.2.2 k_v1 rfl (by decide)
    have l_v25q4 : 0 ≤ v25q4.toInt := by rw [iv_59_3] at r_v25q4; exact r_v25q4
    have h_v25q4 : v25q4.toInt ≤ 6 := by rw [iv_59_3] at s_v25q4; exact s_v25q4
    obtain ⟨v25q5, r_v25q5, s_v25q5, f_v1_M_read_4⟩ := t_peeke (i := (4 : Int32)) hw.2.2.2.2 k_v1 rfl (by decide)
    have l_v25q5 : 0 ≤ v25q5.toInt := by rw [iv_59_4] at r_v25q5; exact r_v25q5
    have h_v25q5 : v25q5.toInt ≤ 4 := by rw [iv_59_4] at s_v25q5; exact s_v25q5
    obtain ⟨v25q6, r_v25q6, s_v25q6, f_v1_M_read_5⟩ := t_peeke (i := (5 : Int32)) hw.2.2.2.2 k_v1 rfl (by decide)
    have l_v25q6 : 0 ≤ v25q6.toInt := by rw [iv_59_5] at r_v25q6; exact r_v25q6
    have h_v25q6 : v25q6.toInt ≤ 6 := by rw [iv_59_5] at s_v25q6; exact s_v25q6
    obtain ⟨u_v25q7, q_v25q7, f_a0_X12_10⟩ := t_peek (k := 10) hw.2.2.2.2 k_a0 rfl (by decide)
    obtain ⟨v25q7, rfl, l_v25q7, h_v25q7⟩ := q_v25q7.geti (lo := (-2147483648)) (hi := 2147483647) rfl
    refine t_calli (va_runV (As := [.int 1, .int 1, .int 40]) (rest := []) ⟨hx, hb, hml, hown, hts⟩ (t_X12_cellHere l dC dI tys κ B w_1 hw.2.2.2.2 a0 k_a0 1 (by decide) (by decide) 1 (by decide) (by decide) 40 (by decide) (by decide) v17n (by omega) (by omega) f_a0_X12_8 v17q1 (by omega) (by omega) f_a0_X12_1 v1 k_v1 f_a0_X12_7 v5 (by omega) (by omega) f_v1_M_read_0 v25q4 (by omega) (by omega) f_v1_M_read_3 v25q5 (by omega) (by omega) f_v1_M_read_4 v25q6 (by omega) (by omega) f_v1_M_read_5 v25q7 f_a0_X12_10 (by have := li_1; have := li_1; have := li_40; omega) H.size) (cwV 3 hts (gUV tw_1304 tw_1306 ts_3_11 tw_13 tw_1307) rfl rfl rfl (by decide +kernel) ⟨(Nat.le_of_ble_eq_true rfl), (Nat.le_of_ble_eq_true rfl)⟩) ⟨cPre.blind, t_recv hw (ci := 12) k_a0 rfl rfl, cPre.use hw.2.1 hw.1 hw.2.2.1 hE⟩ rfl rfl hl.1 rfl (lv_room (Nat.le_of_ble_eq_true rfl)) dX12_isChoirHere_25 ⟨(Nat.le_of_ble_eq_true rfl), (Nat.le_of_ble_eq_true rfl)⟩) hw hA (fun _ _ h => h.2.2.1) (fun v25 w_2 H locs hp hw => ?_)
    obtain ⟨l_v25, h_v25, _, hm, f_v1_M_read_0, f_v1_M_read_3, f_v1_M_read_4, f_v1_M_read_5, ⟨v25n, v25m, l_v25n, h_v25n, l_v25m, h_v25m, f_a0_X12_8, f_a0_X12_10, y_v25⟩⟩ := hp
    have zc_1 := li_1
    have zc_40 := li_40
    have hM := hM.trans hm (by decide) (by decide)
    have f_a0_X12_7 := hm.1 _ _ _ _ f_a0_X12_7 (by decide)
    have f_a0_X12_1 := hm.1 _ _ _ _ f_a0_X12_1 (by decide)
    refine lv_if_eq (tgt := 42) hx hb dX12_isChoirHere_28 (by decide) (fun c_28 => ?_) (fun c_28 => ?_)
    · simp only [fa_lt, fa_le, fa_eq, li_0] at c_28
      refine lv_iconst (v := 0) hx hb dX12_isChoirHere_42 (by decide) ?_
      rw [hQ]
      refine W.widen (k := 0) (n := 0) (Nat.le_refl _) (Nat.le_refl _) ?_
      exact W.zret (v := 0) hx hb hr rfl (fun t ht hW => ⟨⟨0, w_2, rfl, ⟨(by decide), (by decide), hw.2.2.2.2, hM⟩, by rw [ht]; exact hw.2.1, va_K.moved hW.alike hw.1, hw.2.2.1⟩, hw.2.2.2.1.F ht⟩) hw.2.2.2.1.2.2 dX12_isChoirHere_43
    · simp only [fa_lt, fa_le, fa_eq, li_0] at c_28
      refine lv_aload_n hx hb dX12_isChoirHere_31 rfl (lv_at hl 0 rfl) ?_
      refine lv_iconst (v := 2) hx hb dX12_isChoirHere_32 (by decide) ?_
      refine lv_iconst (v := 0) hx hb dX12_isChoirHere_33 (by decide) ?_
      refine lv_bipush (v := 24) hx hb dX12_isChoirHere_34 (by decide) ?_
      refine t_calli (va_runV (As := [.int 2, .int 0, .int 24]) (rest := []) ⟨hx, hb, hml, hown, hts⟩ (t_X12_cellHere l dC dI tys κ B w_2 hw.2.2.2.2 a0 k_a0 2 (by decide) (by decide) 0 (by decide) (by decide) 24 (by decide) (by decide) v25n (by omega) (by omega) f_a0_X12_8 v17q1 (by omega) (by omega) f_a0_X12_1 v1 k_v1 f_a0_X12_7 v5 (by omega) (by omega) f_v1_M_read_0 v25q4 (by omega) (by omega) f_v1_M_read_3 v25q5 (by omega) (by omega) f_v1_M_read_4 v25q6 (by omega) (by omega) f_v1_M_read_5 v25m f_a0_X12_10 (by have := li_2; have := li_0; have := li_24; omega) H.size) (cwV 3 hts (gUV tw_1304 tw_1306 ts_3_11 tw_13 tw_1307) rfl rfl rfl (by decide +kernel) ⟨(Nat.le_of_ble_eq_true rfl), (Nat.le_of_ble_eq_true rfl)⟩) ⟨cPre.blind, t_recv hw (ci := 12) k_a0 rfl rfl, cPre.use hw.2.1 hw.1 hw.2.2.1 hE⟩ rfl rfl hl.1 rfl (lv_room (Nat.le_of_ble_eq_true rfl)) dX12_isChoirHere_36 ⟨(Nat.le_of_ble_eq_true rfl), (Nat.le_of_ble_eq_true rfl)⟩) hw hA (fun _ _ h => h.2.2.1) (fun v36 w_3 H locs hp hw => ?_)
      obtain ⟨l_v36, h_v36, _, hm, f_v1_M_read_0, f_v1_M_read_3, f_v1_M_read_4, f_v1_M_read_5, ⟨v36n, v36m, l_v36n, h_v36n, l_v36m, h_v36m, f_a0_X12_8, f_a0_X12_10, y_v36⟩⟩ := hp
      have zc_0 := li_0
      have zc_2 := li_2
      have zc_24 := li_24
      have hM := hM.trans hm (by decide) (by decide)
      have f_a0_X12_7 := hm.1 _ _ _ _ f_a0_X12_7 (by decide)
      have f_a0_X12_1 := hm.1 _ _ _ _ f_a0_X12_1 (by decide)
      refine lv_if_ne (tgt := 44) hx hb dX12_isChoirHere_39 (by decide) (fun c_39 => ?_) (fun c_39 => ?_)
      · simp only [fa_lt, fa_le, fa_eq, li_0] at c_39
        refine lv_aload_n hx hb dX12_isChoirHere_44 rfl (lv_at hl 0 rfl) ?_
        refine t_getk (ci := 12) (C := RX12) (T := TX12) (N := 38) hx hb hts iX12 hown hw rfl 7 (by decide) (hts _ tw_1132) (fun _ h9 => h9) dX12_isChoirHere_45 f_a0_X12_7 ?_
        refine lv_iconst (v := 0) hx hb dX12_isChoirHere_48 (by decide) ?_
        refine lv_iconst (v := 1) hx hb dX12_isChoirHere_49 (by decide) ?_
        refine t_iast hx hb hw k_v1 rfl rfl (by decide) (by decide) (by rw [iv_59_0]; exact (show 0 ≤ (1 : Int32).toInt by decide)) (by rw [iv_59_0]; exact (show (1 : Int32).toInt ≤ 1 by decide)) dX12_isChoirHere_50 (fun w_4 H locs hw u => ?_)
        have hM := hM.up3 u k_v1 (by decide)
        have f_a0_X12_7 := u.1 _ _ _ _ f_a0_X12_7
        have f_a0_X12_1 := u.1 _ _ _ _ f_a0_X12_1
        have f_v1_M_read_0 := u.2.2.2
        have f_v1_M_read_3 := u.2.2.1 _ _ _ f_v1_M_read_3 (Or.inr (by decide))
        have f_v1_M_read_4 := u.2.2.1 _ _ _ f_v1_M_read_4 (Or.inr (by decide))
        have f_v1_M_read_5 := u.2.2.1 _ _ _ f_v1_M_read_5 (Or.inr (by decide))
        have f_a0_X12_8 := u.1 _ _ _ _ f_a0_X12_8
        have f_a0_X12_10 := u.1 _ _ _ _ f_a0_X12_10
        refine lv_iconst (v := 1) hx hb dX12_isChoirHere_51 (by decide) ?_
        rw [hQ]
        refine W.widen (k := 0) (n := 0) (Nat.le_refl _) (Nat.le_refl _) ?_
        exact W.zret (v := 1) hx hb hr rfl (fun t ht hW => ⟨⟨1, w_4, rfl, ⟨(by decide), (by decide), hw.2.2.2.2, hM⟩, by rw [ht]; exact hw.2.1, va_K.moved hW.alike hw.1, hw.2.2.1⟩, hw.2.2.2.1.F ht⟩) hw.2.2.2.1.2.2 dX12_isChoirHere_52
      · simp only [fa_lt, fa_le, fa_eq, li_0] at c_39
        refine lv_iconst (v := 0) hx hb dX12_isChoirHere_42 (by decide) ?_
        rw [hQ]
        refine W.widen (k := 0) (n := 0) (Nat.le_refl _) (Nat.le_refl _) ?_
        exact W.zret (v := 0) hx hb hr rfl (fun t ht hW => ⟨⟨0, w_3, rfl, ⟨(by decide), (by decide), hw.2.2.2.2, hM⟩, by rw [ht]; exact hw.2.1, va_K.moved hW.alike hw.1, hw.2.2.1⟩, hw.2.2.2.1.F ht⟩) hw.2.2.2.1.2.2 dX12_isChoirHere_43
  · simp only [fa_lt, fa_le, fa_eq, li_0] at c_6
    refine lv_aload_n hx hb dX12_isChoirHere_9 rfl (lv_at hl 0 rfl) ?_
    refine lv_iconst (v := 4) hx hb dX12_isChoirHere_10 (by decide) ?_
    refine lv_iload_n hx hb dX12_isChoirHere_11 rfl (lv_at hl 1 rfl) ?_
    refine t_calli (va_runV (As := [.int 4, .int a1]) (rest := []) ⟨hx, hb, hml, hown, hts⟩ (t_X12_fails l dC dI tys κ B ws hw.2.2.2.2 a0 k_a0 4 (by decide) (by decide) a1 (by omega) (by omega) s.heap.size) (cwV 2 hts (gUV tw_1288 tw_1290 ts_3_7 tw_13 tw_1291) rfl rfl rfl (by decide +kernel) ⟨(Nat.le_of_ble_eq_true rfl), (Nat.le_of_ble_eq_true rfl)⟩) ⟨cPre.blind, t_recv hw (ci := 12) k_a0 rfl rfl, cPre.use hw.2.1 hw.1 hw.2.2.1 hE⟩ rfl rfl hl.1 rfl (lv_room (Nat.le_of_ble_eq_true rfl)) dX12_isChoirHere_12 ⟨(Nat.le_of_ble_eq_true rfl), (Nat.le_of_ble_eq_true rfl)⟩) hw hA (fun _ _ h => h.2.2.1) (fun v12 w_5 H locs hp hw => ?_)
    obtain ⟨l_v12, h_v12, _, hm⟩ := hp
    have hM := hM.trans hm (by decide) (by decide)
    have f_a0_X12_7 := hm.1 _ _ _ _ f_a0_X12_7 (by decide)
    have f_v1_M_read_0 := hm.elt k_v1 (by decide) f_v1_M_read_0
    rw [hQ]
    refine W.widen (k := 0) (n := 0) (Nat.le_refl _) (Nat.le_refl _) ?_
    exact W.zret (v := v12) hx hb hr (nb_i (by omega) (by omega)) (fun t ht hW => ⟨⟨v12, w_5, rfl, ⟨(by omega), (by omega), hw.2.2.2.2, hM⟩, by rw [ht]; exact hw.2.1, va_K.moved hW.alike hw.1, hw.2.2.1⟩, hw.2.2.2.1.F ht⟩) hw.2.2.2.1.2.2 dX12_isChoirHere_15
set_option maxHeartbeats 4000000 in
set_option maxRecDepth 100000 in
theorem t_X12_isFarmHere (l : Launch) (dC : Nat → ClassId) (dI : Nat → Nat → Nat) (tys : List (ClassId × FieldType)) (κ : tK) (B : Nat) (ws : va_W) (hT : Ty κ tys B ws) (a0 : Nat) (k_a0 : κ a0 = some 12) (a1 : Int32) (l_a1 : 0 ≤ a1.toInt) (h_a1 : a1.toInt ≤ 401) (sz : Nat) : Met l yX12_isFarmHere (ws_u yX12_isFarmHere cX12_isFarmHere 3 (some .boolean)) ({ frames := 3, cells := 0, slots := 0, locals := 72 }) (va_Pc [.ref a0, .int a1] (cPre (dC, dI) tys ws sz)) (va_Qi (fun (r : Int32) (w : va_W) => 0 ≤ r.toInt ∧ r.toInt ≤ 1 ∧ Ty κ tys B w ∧ Sm [(12, 8), (12, 9), (12, 10)] [59] κ ws w) (fun w t => cPost (dC, dI) tys w (va_A ws sz) t) (va_A ws sz)) 0 0 (va_A ws sz) := by
  refine Met.ofW (cc := cX12_isFarmHere) (maxL := 3) (ret := (some .boolean)) (by decide) rfl ?_
  intro p e s m args below meth c s₁ B0 hml hv
  obtain ⟨rfl, hsz, hP, hK, hD0, hE⟩ := hv
  have hx := B0.exec
  have hb := B0.bytes
  have hr := B0.returns
  have hts0 := atoms_spec (ws := ws_u yX12_isFarmHere cX12_isFarmHere 3 (some .boolean)) B0.pre
  have hts : ∀ w ∈ gT, w.before _ s = true := fun w h => hts0 w (List.mem_cons_of_mem _ h)
  have hown : s.vm.findClass RX12 = some m.cls := findClass_of_methodNamed B0.named
  have hlocks := B0.notSynchronized
  subst hsz
  have hD := hD0.self (sz := s.heap.size)
  generalize hAe : va_A ws s.heap.size = A at hD ⊢
  have hA : ∀ q : Nat, s.heap.size ≤ q → A q := fun q h => by rw [← hAe]; exact Or.inr h
  have hw : tW (dC, dI) tys κ B A s ws s.heap [] := ⟨hK, hP, hD, va_S.rf, hT⟩
  have hM : Sm [(12, 8), (12, 9), (12, 10)] [59] κ ws ws := Sm.rf
  clear hP hK hD hD0 hts0
  have hl := lv_entry ([.ref a0, .int a1]) (n := 3) (Nat.le_of_ble_eq_true rfl)
  rw [lg_entry_eq]
  generalize (lg_sl ([.ref a0, .int a1]) ++ List.replicate (3 - (lg_sl ([.ref a0, .int a1])).length) Slot.unset).toArray = ls at hl ⊢
  have hl : lv_has ls 3 [(0, .ref a0), (1, .int a1)] := hl
  refine t_start (fun QQ hQ => ?_)
  refine lv_aload_n hx hb dX12_isFarmHere_0 rfl (lv_at hl 0 rfl) ?_
  refine t_getr (k1 := 59) (ci := 12) (C := RX12) (T := TX12) (N := 38) hx hb hts iX12 hown hw k_a0 rfl rfl rfl 7 (by decide) (hts _ tw_1132) (fun _ h9 => h9) dX12_isFarmHere_1 rfl (fun v1 k_v1 f_a0_X12_7 => ?_)
  refine lv_iconst (v := 5) hx hb dX12_isFarmHere_4 (by decide) ?_
  refine t_iald hx hb hw k_v1 rfl rfl (by decide) (by decide) dX12_isFarmHere_5 (fun v5 r_v5 s_v5 f_v1_M_read_5 => ?_)
  have l_v5 : 0 ≤ v5.toInt := by rw [iv_59_5] at r_v5; exact r_v5
  have h_v5 : v5.toInt ≤ 6 := by rw [iv_59_5] at s_v5; exact s_v5
  refine lv_bipush (v := 6) hx hb dX12_isFarmHere_6 (by decide) ?_
  refine lv_icmp_ne (tgt := 18) hx hb dX12_isFarmHere_8 (by decide) (fun c_8 => ?_) (fun c_8 => ?_)
  · simp only [fa_lt, fa_le, fa_eq, li_6] at c_8
    refine lv_aload_n hx hb dX12_isFarmHere_18 rfl (lv_at hl 0 rfl) ?_
    obtain ⟨u_v19q0, q_v19q0, f_a0_X12_8⟩ := t_peek (k := 8) hw.2.2.2.2 k_a0 rfl (by decide)
    obtain ⟨v19q0, rfl, l_v19q0, h_v19q0⟩ := q_v19q0.geti (lo := 0) (hi := 401) rfl
    obtain ⟨u_v19q1, q_v19q1, f_a0_X12_1⟩ := t_peek (k := 1) hw.2.2.2.2 k_a0 rfl (by decide)
    obtain ⟨v19q1, rfl, l_v19q1, h_v19q1⟩ := q_v19q1.geti (lo := 0) (hi := 400) rfl
    refine t_callv (va_runV (As := []) (rest := []) ⟨hx, hb, hml, hown, hts⟩ (t_X12_passWord l dC dI tys κ B ws hw.2.2.2.2 a0 k_a0 v19q0 (by omega) (by omega) f_a0_X12_8 v19q1 (by omega) (by omega) f_a0_X12_1 s.heap.size) (cwV 0 hts (gUV tw_1300 tw_1302 ts_3_10 tw_13 tw_1303) rfl rfl rfl (by decide +kernel) ⟨(Nat.le_of_ble_eq_true rfl), (Nat.le_of_ble_eq_true rfl)⟩) ⟨cPre.blind, t_recv hw (ci := 12) k_a0 rfl rfl, cPre.use hw.2.1 hw.1 hw.2.2.1 hE⟩ rfl rfl hl.1 rfl (lv_room (Nat.le_of_ble_eq_true rfl)) dX12_isFarmHere_19 ⟨(Nat.le_of_ble_eq_true rfl), (Nat.le_of_ble_eq_true rfl)⟩) hw hA (fun _ h => h.1) (fun w_1 H locs hp hw => ?_)
    obtain ⟨_, hm, ⟨v19n, l_v19n, h_v19n, f_a0_X12_8, y_v19⟩⟩ := hp
    have hM := hM.trans hm (by decide) (by decide)
    have f_a0_X12_7 := hm.1 _ _ _ _ f_a0_X12_7 (by decide)
    have f_v1_M_read_5 := hm.elt k_v1 (by decide) f_v1_M_read_5
    have f_a0_X12_1 := hm.1 _ _ _ _ f_a0_X12_1 (by decide)
    refine lv_bipush (v := 114) hx hb dX12_isFarmHere_22 (by decide) ?_
    refine lv_iconst (v := 2) hx hb dX12_isFarmHere_24 (by decide) ?_
    refine lv_aload_n hx hb dX12_isFarmHere_25 rfl (lv_at hl 0 rfl) ?_
    refine t_getk (ci := 12) (C := RX12) (T := TX12) (N := 38) hx hb hts iX12 hown hw rfl 7 (by decide) (hts _ tw_1132) (fun _ h9 => h9) dX12_isFarmHere_26 f_a0_X12_7 ?_
    refine lv_iconst (v := 5) hx hb dX12_isFarmHere_29 (by decide) ?_
    refine t_ialdk hx hb hw k_v1 rfl rfl (by decide) (by decide) f_v1_M_read_5 dX12_isFarmHere_30 ?_
    refine lv_imul hx hb dX12_isFarmHere_31 ?_
    refine lv_topi (fun v31 e_v31 => ?_)
    have e_v31 : v31.toInt = 2 * v5.toInt := ml_i e_v31 li_2 rfl (by omega) (by omega)
    refine lv_iadd hx hb dX12_isFarmHere_32 ?_
    refine lv_topi (fun v32 e_v32 => ?_)
    have e_v32 : v32.toInt = 114 + v31.toInt := ad_i e_v32 li_114 rfl (by omega) (by omega)
    refine lv_istore_n (lv' := [(2, .int v32), (0, .ref a0), (1, .int a1)]) hx hb dX12_isFarmHere_33 rfl hl (by decide) rfl (fun ls hl => ?_)
    refine lv_aload_n hx hb dX12_isFarmHere_34 rfl (lv_at hl 1 rfl) ?_
    refine lv_iload_n hx hb dX12_isFarmHere_35 rfl (lv_at hl 0 rfl) ?_
    refine lv_iconst (v := 0) hx hb dX12_isFarmHere_36 (by decide) ?_
    refine lv_bipush (v := 60) hx hb dX12_isFarmHere_37 (by decide) ?_
    obtain ⟨v39q3, r_v39q3, s_v39q3, f_v1_M_read_0⟩ := t_peeke (i := (0 : Int32)) hw.2.2.2.2 k_v1 rfl (by decide)
    have l_v39q3 : 0 ≤ v39q3.toInt := by rw [iv_59_0] at r_v39q3; exact r_v39q3
    have h_v39q3 : v39q3.toInt ≤ 1 := by rw [iv_59_0] at s_v39q3; exact s_v39q3
    obtain ⟨v39q4, r_v39q4, s_v39q4, f_v1_M_read_3⟩ := t_peeke (i := (3 : Int32)) hw.2.2.2.2 k_v1 rfl (by decide)
    have l_v39q4 : 0 ≤ v39q4.toInt := by rw [iv_59_3] at r_v39q4; exact r_v39q4
    have h_v39q4 : v39q4.toInt ≤ 6 := by rw [iv_59_3] at s_v39q4; exact s_v39q4
    obtain ⟨v39q5, r_v39q5, s_v39q5, f_v1_M_read_4⟩ := t_peeke (i := (4 : Int32)) hw.2.2.2.2 k_v1 rfl (by decide)
    have l_v39q5 : 0 ≤ v39q5.toInt := by rw [iv_59_4] at r_v39q5; exact r_v39q5
    have h_v39q5 : v39q5.toInt ≤ 4 := by rw [iv_59_4] at s_v39q5; exact s_v39q5
    obtain ⟨u_v39q7, q_v39q7, f_a0_X12_10⟩ := t_peek (k := 10) hw.2.2.2.2 k_a0 rfl (by decide)
    obtain ⟨v39q7, rfl, l_v39q7, h_v39q7⟩ := q_v39q7.geti (lo := (-2147483648)) (hi := 2147483647) rfl
    refine t_calli (va_runV (As := [.int v32, .int 0, .int 60]) (rest := []) ⟨hx, hb, hml, hown, hts⟩ (t_X12_cellHere l dC dI tys κ B w_1 hw.2.2.2.2 a0 k_a0 v32 (by omega) (by omega) 0 (by decide) (by decide) 60 (by decide) (by decide) v19n (by omega) (by omega) f_a0_X12_8 v19q1 (by omega) (by omega) f_a0_X12_1 v1 k_v1 f_a0_X12_7 v39q3 (by omega) (by omega) f_v1_M_read_0 v39q4 (by omega) (by omega) f_v1_M_read_3 v39q5 (by omega) (by omega) f_v1_M_read_4 v5 (by omega) (by omega) f_v1_M_read_5 v39q7 f_a0_X12_10 (by have := li_0; have := li_60; omega) H.size) (cwV 3 hts (gUV tw_1304 tw_1306 ts_3_11 tw_13 tw_1307) rfl rfl rfl (by decide +kernel) ⟨(Nat.le_of_ble_eq_true rfl), (Nat.le_of_ble_eq_true rfl)⟩) ⟨cPre.blind, t_recv hw (ci := 12) k_a0 rfl rfl, cPre.use hw.2.1 hw.1 hw.2.2.1 hE⟩ rfl rfl hl.1 rfl (lv_room (Nat.le_of_ble_eq_true rfl)) dX12_isFarmHere_39 ⟨(Nat.le_of_ble_eq_true rfl), (Nat.le_of_ble_eq_true rfl)⟩) hw hA (fun _ _ h => h.2.2.1) (fun v39 w_2 H locs hp hw => ?_)
    obtain ⟨l_v39, h_v39, _, hm, f_v1_M_read_0, f_v1_M_read_3, f_v1_M_read_4, f_v1_M_read_5, ⟨v39n, v39m, l_v39n, h_v39n, l_v39m, h_v39m, f_a0_X12_8, f_a0_X12_10, y_v39⟩⟩ := hp
    have zc_0 := li_0
    have zc_60 := li_60
    have hM := hM.trans hm (by decide) (by decide)
    have f_a0_X12_7 := hm.1 _ _ _ _ f_a0_X12_7 (by decide)
    have f_a0_X12_1 := hm.1 _ _ _ _ f_a0_X12_1 (by decide)
    refine lv_if_eq (tgt := 58) hx hb dX12_isFarmHere_42 (by decide) (fun c_42 => ?_) (fun c_42 => ?_)
    · simp only [fa_lt, fa_le, fa_eq, li_0] at c_42
      refine lv_iconst (v := 0) hx hb dX12_isFarmHere_58 (by decide) ?_
      rw [hQ]
      refine W.widen (k := 0) (n := 0) (Nat.le_refl _) (Nat.le_refl _) ?_
      exact W.zret (v := 0) hx hb hr rfl (fun t ht hW => ⟨⟨0, w_2, rfl, ⟨(by decide), (by decide), hw.2.2.2.2, hM⟩, by rw [ht]; exact hw.2.1, va_K.moved hW.alike hw.1, hw.2.2.1⟩, hw.2.2.2.1.F ht⟩) hw.2.2.2.1.2.2 dX12_isFarmHere_59
    · simp only [fa_lt, fa_le, fa_eq, li_0] at c_42
      refine lv_aload_n hx hb dX12_isFarmHere_45 rfl (lv_at hl 1 rfl) ?_
      refine lv_iload_n hx hb dX12_isFarmHere_46 rfl (lv_at hl 0 rfl) ?_
      refine lv_iconst (v := 1) hx hb dX12_isFarmHere_47 (by decide) ?_
      refine lv_iadd hx hb dX12_isFarmHere_48 ?_
      refine lv_topi (fun v48 e_v48 => ?_)
      have e_v48 : v48.toInt = v32.toInt + 1 := ad_i e_v48 rfl li_1 (by omega) (by omega)
      refine lv_iconst (v := 0) hx hb dX12_isFarmHere_49 (by decide) ?_
      refine lv_bipush (v := 9) hx hb dX12_isFarmHere_50 (by decide) ?_
      refine t_calli (va_runV (As := [.int v48, .int 0, .int 9]) (rest := []) ⟨hx, hb, hml, hown, hts⟩ (t_X12_cellHere l dC dI tys κ B w_2 hw.2.2.2.2 a0 k_a0 v48 (by omega) (by omega) 0 (by decide) (by decide) 9 (by decide) (by decide) v39n (by omega) (by omega) f_a0_X12_8 v19q1 (by omega) (by omega) f_a0_X12_1 v1 k_v1 f_a0_X12_7 v39q3 (by omega) (by omega) f_v1_M_read_0 v39q4 (by omega) (by omega) f_v1_M_read_3 v39q5 (by omega) (by omega) f_v1_M_read_4 v5 (by omega) (by omega) f_v1_M_read_5 v39m f_a0_X12_10 (by have := li_0; have := li_9; omega) H.size) (cwV 3 hts (gUV tw_1304 tw_1306 ts_3_11 tw_13 tw_1307) rfl rfl rfl (by decide +kernel) ⟨(Nat.le_of_ble_eq_true rfl), (Nat.le_of_ble_eq_true rfl)⟩) ⟨cPre.blind, t_recv hw (ci := 12) k_a0 rfl rfl, cPre.use hw.2.1 hw.1 hw.2.2.1 hE⟩ rfl rfl hl.1 rfl (lv_room (Nat.le_of_ble_eq_true rfl)) dX12_isFarmHere_52 ⟨(Nat.le_of_ble_eq_true rfl), (Nat.le_of_ble_eq_true rfl)⟩) hw hA (fun _ _ h => h.2.2.1) (fun v52 w_3 H locs hp hw => ?_)
      obtain ⟨l_v52, h_v52, _, hm, f_v1_M_read_0, f_v1_M_read_3, f_v1_M_read_4, f_v1_M_read_5, ⟨v52n, v52m, l_v52n, h_v52n, l_v52m, h_v52m, f_a0_X12_8, f_a0_X12_10, y_v52⟩⟩ := hp
      have zc_0 := li_0
      have zc_9 := li_9
      have hM := hM.trans hm (by decide) (by decide)
      have f_a0_X12_7 := hm.1 _ _ _ _ f_a0_X12_7 (by decide)
      have f_a0_X12_1 := hm.1 _ _ _ _ f_a0_X12_1 (by decide)
      refine lv_if_ne (tgt := 60) hx hb dX12_isFarmHere_55 (by decide) (fun c_55 => ?_) (fun c_55 => ?_)
      · simp only [fa_lt, fa_le, fa_eq, li_0] at c_55
        refine lv_aload_n hx hb dX12_isFarmHere_60 rfl (lv_at hl 1 rfl) ?_
        refine t_getk (ci := 12) (C := RX12) (T := TX12) (N := 38) hx hb hts iX12 hown hw rfl 7 (by decide) (hts _ tw_1132) (fun _ h9 => h9) dX12_isFarmHere_61 f_a0_X12_7 ?_
        refine lv_iconst (v := 5) hx hb dX12_isFarmHere_64 (by decide) ?_
        refine lv_dup2_11 hx hb dX12_isFarmHere_65 rfl rfl ?_
        refine t_ialdk hx hb hw k_v1 rfl rfl (by decide) (by decide) f_v1_M_read_5 dX12_isFarmHere_66 ?_
        refine lv_iconst (v := 1) hx hb dX12_isFarmHere_67 (by decide) ?_
        refine lv_iadd hx hb dX12_isFarmHere_68 ?_
        refine lv_topi (fun v68 e_v68 => ?_)
        have e_v68 : v68.toInt = v5.toInt + 1 := ad_i e_v68 rfl li_1 (by omega) (by omega)
        refine t_iast hx hb hw k_v1 rfl rfl (by decide) (by decide) (by rw [iv_59_5]; exact (show 0 ≤ v68.toInt by omega)) (by rw [iv_59_5]; exact (show v68.toInt ≤ 6 by omega)) dX12_isFarmHere_69 (fun w_4 H locs hw u => ?_)
        have hM := hM.up3 u k_v1 (by decide)
        have f_a0_X12_7 := u.1 _ _ _ _ f_a0_X12_7
        have f_a0_X12_1 := u.1 _ _ _ _ f_a0_X12_1
        have f_v1_M_read_0 := u.2.2.1 _ _ _ f_v1_M_read_0 (Or.inr (by decide))
        have f_v1_M_read_3 := u.2.2.1 _ _ _ f_v1_M_read_3 (Or.inr (by decide))
        have f_v1_M_read_4 := u.2.2.1 _ _ _ f_v1_M_read_4 (Or.inr (by decide))
        have f_v1_M_read_5 := u.2.2.2
        have f_a0_X12_8 := u.1 _ _ _ _ f_a0_X12_8
        have f_a0_X12_10 := u.1 _ _ _ _ f_a0_X12_10
        refine lv_iconst (v := 1) hx hb dX12_isFarmHere_70 (by decide) ?_
        rw [hQ]
        refine W.widen (k := 0) (n := 0) (Nat.le_refl _) (Nat.le_refl _) ?_
        exact W.zret (v := 1) hx hb hr rfl (fun t ht hW => ⟨⟨1, w_4, rfl, ⟨(by decide), (by decide), hw.2.2.2.2, hM⟩, by rw [ht]; exact hw.2.1, va_K.moved hW.alike hw.1, hw.2.2.1⟩, hw.2.2.2.1.F ht⟩) hw.2.2.2.1.2.2 dX12_isFarmHere_71
      · simp only [fa_lt, fa_le, fa_eq, li_0] at c_55
        refine lv_iconst (v := 0) hx hb dX12_isFarmHere_58 (by decide) ?_
        rw [hQ]
        refine W.widen (k := 0) (n := 0) (Nat.le_refl _) (Nat.le_refl _) ?_
        exact W.zret (v := 0) hx hb hr rfl (fun t ht hW => ⟨⟨0, w_3, rfl, ⟨(by decide), (by decide), hw.2.2.2.2, hM⟩, by rw [ht]; exact hw.2.1, va_K.moved hW.alike hw.1, hw.2.2.1⟩, hw.2.2.2.1.F ht⟩) hw.2.2.2.1.2.2 dX12_isFarmHere_59
  · simp only [fa_lt, fa_le, fa_eq, li_6] at c_8
    refine lv_aload_n hx hb dX12_isFarmHere_11 rfl (lv_at hl 0 rfl) ?_
    refine lv_iconst (v := 4) hx hb dX12_isFarmHere_12 (by decide) ?_
    refine lv_iload_n hx hb dX12_isFarmHere_13 rfl (lv_at hl 1 rfl) ?_
    refine t_calli (va_runV (As := [.int 4, .int a1]) (rest := []) ⟨hx, hb, hml, hown, hts⟩ (t_X12_fails l dC dI tys κ B ws hw.2.2.2.2 a0 k_a0 4 (by decide) (by decide) a1 (by omega) (by omega) s.heap.size) (cwV 2 hts (gUV tw_1288 tw_1290 ts_3_7 tw_13 tw_1291) rfl rfl rfl (by decide +kernel) ⟨(Nat.le_of_ble_eq_true rfl), (Nat.le_of_ble_eq_true rfl)⟩) ⟨cPre.blind, t_recv hw (ci := 12) k_a0 rfl rfl, cPre.use hw.2.1 hw.1 hw.2.2.1 hE⟩ rfl rfl hl.1 rfl (lv_room (Nat.le_of_ble_eq_true rfl)) dX12_isFarmHere_14 ⟨(Nat.le_of_ble_eq_true rfl), (Nat.le_of_ble_eq_true rfl)⟩) hw hA (fun _ _ h => h.2.2.1) (fun v14 w_5 H locs hp hw => ?_)
    obtain ⟨l_v14, h_v14, _, hm⟩ := hp
    have hM := hM.trans hm (by decide) (by decide)
    have f_a0_X12_7 := hm.1 _ _ _ _ f_a0_X12_7 (by decide)
    have f_v1_M_read_5 := hm.elt k_v1 (by decide) f_v1_M_read_5
    rw [hQ]
    refine W.widen (k := 0) (n := 0) (Nat.le_refl _) (Nat.le_refl _) ?_
    exact W.zret (v := v14) hx hb hr (nb_i (by omega) (by omega)) (fun t ht hW => ⟨⟨v14, w_5, rfl, ⟨(by omega), (by omega), hw.2.2.2.2, hM⟩, by rw [ht]; exact hw.2.1, va_K.moved hW.alike hw.1, hw.2.2.1⟩, hw.2.2.2.1.F ht⟩) hw.2.2.2.1.2.2 dX12_isFarmHere_17
