theorem ts_7_9 : Cond.selects "BoyBishopModel" ⟨"BoyBishopModel", "isWonBy", "(II)Z"⟩ ⟨"BoyBishopModel", "isWonBy", "(II)Z"⟩ ∈ gT := gT_in (List.mem_append_left _ (List.mem_map.mpr ⟨(⟨"BoyBishopModel", "isWonBy", "(II)Z"⟩, 38), (List.mem_append_right _ (List.mem_append_right _ (List.mem_append_right _ (List.mem_append_right _ (List.mem_append_right _ (List.mem_append_right _ (List.mem_append_right _ (List.mem_append_left _ (List.mem_of_getElem? (i := 9) rfl))))))))), rfl⟩)) rfl
theorem ts_8_1 : Cond.selects "BoyBishopModel" ⟨"BoyBishopModel", "draw", "(I)I"⟩ ⟨"BoyBishopModel", "draw", "(I)I"⟩ ∈ gT := gT_in (List.mem_append_left _ (List.mem_map.mpr ⟨(⟨"BoyBishopModel", "draw", "(I)I"⟩, 38), (List.mem_append_right _ (List.mem_append_right _ (List.mem_append_right _ (List.mem_append_right _ (List.mem_append_right _ (List.mem_append_right _ (List.mem_append_right _ (List.mem_append_right _ (List.mem_of_getElem? (i := 1) rfl))))))))), rfl⟩)) rfl
theorem tw_1656 : (Jvm.Cond.methodLink "BoyBishopModel" (427 : Nat) ({ cls := "BoyBishopModel", name := "isWonBy", desc := "(II)Z" } : Jvm.MethodName)) ∈ gT := gT_in (List.mem_append_right _ (List.mem_append_right _ (List.mem_append_right _ (List.mem_append_right _ (List.mem_append_right _ (List.mem_append_right _ (List.mem_append_right _ (List.mem_append_left _ (List.mem_of_getElem? (i := 216) rfl))))))))) rfl
theorem tw_1658 : (Jvm.Cond.instanceMethod ({ cls := "BoyBishopModel", name := "isWonBy", desc := "(II)Z" } : Jvm.MethodName)) ∈ gT := gT_in (List.mem_append_right _ (List.mem_append_right _ (List.mem_append_right _ (List.mem_append_right _ (List.mem_append_right _ (List.mem_append_right _ (List.mem_append_right _ (List.mem_append_left _ (List.mem_of_getElem? (i := 218) rfl))))))))) rfl
theorem tw_1659 : (Jvm.Cond.code ({ cls := "BoyBishopModel", name := "isWonBy", desc := "(II)Z" } : Jvm.MethodName) prog_14_method_100_code (4 : Nat) (Option.some Jvm.ClassFile.FieldType.boolean)) ∈ gT := gT_in (List.mem_append_right _ (List.mem_append_right _ (List.mem_append_right _ (List.mem_append_right _ (List.mem_append_right _ (List.mem_append_right _ (List.mem_append_right _ (List.mem_append_left _ (List.mem_of_getElem? (i := 219) rfl))))))))) rfl
theorem tw_1731 : (Jvm.Cond.constantLong "BoyBishopModel" (471 : Nat) (10 : Int64)) ∈ gT := gT_in (List.mem_append_right _ (List.mem_append_right _ (List.mem_append_right _ (List.mem_append_right _ (List.mem_append_right _ (List.mem_append_right _ (List.mem_append_right _ (List.mem_append_right _ (List.mem_of_getElem? (i := 51) rfl))))))))) rfl
theorem tw_1732 : (Jvm.Cond.constantLong "BoyBishopModel" (473 : Nat) (100 : Int64)) ∈ gT := gT_in (List.mem_append_right _ (List.mem_append_right _ (List.mem_append_right _ (List.mem_append_right _ (List.mem_append_right _ (List.mem_append_right _ (List.mem_append_right _ (List.mem_append_right _ (List.mem_of_getElem? (i := 52) rfl))))))))) rfl
theorem tw_1733 : (Jvm.Cond.methodLink "BoyBishopModel" (475 : Nat) ({ cls := "BoyBishopModel", name := "draw", desc := "(I)I" } : Jvm.MethodName)) ∈ gT := gT_in (List.mem_append_right _ (List.mem_append_right _ (List.mem_append_right _ (List.mem_append_right _ (List.mem_append_right _ (List.mem_append_right _ (List.mem_append_right _ (List.mem_append_right _ (List.mem_of_getElem? (i := 53) rfl))))))))) rfl
theorem tw_1735 : (Jvm.Cond.instanceMethod ({ cls := "BoyBishopModel", name := "draw", desc := "(I)I" } : Jvm.MethodName)) ∈ gT := gT_in (List.mem_append_right _ (List.mem_append_right _ (List.mem_append_right _ (List.mem_append_right _ (List.mem_append_right _ (List.mem_append_right _ (List.mem_append_right _ (List.mem_append_right _ (List.mem_of_getElem? (i := 55) rfl))))))))) rfl
theorem tw_1736 : (Jvm.Cond.code ({ cls := "BoyBishopModel", name := "draw", desc := "(I)I" } : Jvm.MethodName) prog_14_method_119_code (2 : Nat) (Option.some Jvm.ClassFile.FieldType.int)) ∈ gT := gT_in (List.mem_append_right _ (List.mem_append_right _ (List.mem_append_right _ (List.mem_append_right _ (List.mem_append_right _ (List.mem_append_right _ (List.mem_append_right _ (List.mem_append_right _ (List.mem_of_getElem? (i := 56) rfl))))))))) rfl
theorem dX12_votes_0 : decode cX12_votes 0 = .ok (.aload_n 0, 1) := by decide +kernel
theorem dX12_votes_1 : decode cX12_votes 1 = .ok (.invokevirtual 379, 3) := by decide +kernel
theorem dX12_votes_4 : decode cX12_votes 4 = .ok (.ifCond .eq 28, 3) := by decide +kernel
theorem dX12_votes_7 : decode cX12_votes 7 = .ok (.iload_n 2, 1) := by decide +kernel
theorem dX12_votes_8 : decode cX12_votes 8 = .ok (.i2l, 1) := by decide +kernel
theorem dX12_votes_9 : decode cX12_votes 9 = .ok (.lconst 0, 1) := by decide +kernel
theorem dX12_votes_10 : decode cX12_votes 10 = .ok (.ldc2_w 392, 3) := by decide +kernel
theorem dX12_votes_13 : decode cX12_votes 13 = .ok (.invokestatic 121, 3) := by decide +kernel
theorem dX12_votes_16 : decode cX12_votes 16 = .ok (.ifCond .eq 16, 3) := by decide +kernel
theorem dX12_votes_19 : decode cX12_votes 19 = .ok (.iload_n 2, 1) := by decide +kernel
theorem dX12_votes_20 : decode cX12_votes 20 = .ok (.iconst 2, 1) := by decide +kernel
theorem dX12_votes_21 : decode cX12_votes 21 = .ok (.if_icmp .ge 14, 3) := by decide +kernel
theorem dX12_votes_24 : decode cX12_votes 24 = .ok (.aload_n 0, 1) := by decide +kernel
theorem dX12_votes_25 : decode cX12_votes 25 = .ok (.iload_n 1, 1) := by decide +kernel
theorem dX12_votes_26 : decode cX12_votes 26 = .ok (.invokevirtual 301, 3) := by decide +kernel
theorem dX12_votes_29 : decode cX12_votes 29 = .ok (.ifCond .ne 6, 3) := by decide +kernel
theorem dX12_votes_32 : decode cX12_votes 32 = .ok (.bipush (-2), 2) := by decide +kernel
theorem dX12_votes_34 : decode cX12_votes 34 = .ok (.ireturn, 1) := by decide +kernel
theorem dX12_votes_35 : decode cX12_votes 35 = .ok (.aload_n 0, 1) := by decide +kernel
theorem dX12_votes_36 : decode cX12_votes 36 = .ok (.invokevirtual 349, 3) := by decide +kernel
theorem dX12_votes_39 : decode cX12_votes 39 = .ok (.iload_n 2, 1) := by decide +kernel
theorem dX12_votes_40 : decode cX12_votes 40 = .ok (.ifCond .ne 12, 3) := by decide +kernel
theorem dX12_votes_43 : decode cX12_votes 43 = .ok (.aload_n 0, 1) := by decide +kernel
theorem dX12_votes_44 : decode cX12_votes 44 = .ok (.getfield 46, 3) := by decide +kernel
theorem dX12_votes_47 : decode cX12_votes 47 = .ok (.iload_n 1, 1) := by decide +kernel
theorem dX12_votes_48 : decode cX12_votes 48 = .ok (.iaload, 1) := by decide +kernel
theorem dX12_votes_49 : decode cX12_votes 49 = .ok (.goto 20, 3) := by decide +kernel
theorem dX12_votes_52 : decode cX12_votes 52 = .ok (.iload_n 2, 1) := by decide +kernel
theorem dX12_votes_53 : decode cX12_votes 53 = .ok (.iconst 1, 1) := by decide +kernel
theorem dX12_votes_54 : decode cX12_votes 54 = .ok (.if_icmp .ne 11, 3) := by decide +kernel
theorem dX12_votes_57 : decode cX12_votes 57 = .ok (.aload_n 0, 1) := by decide +kernel
theorem dX12_votes_58 : decode cX12_votes 58 = .ok (.iload_n 1, 1) := by decide +kernel
theorem dX12_votes_59 : decode cX12_votes 59 = .ok (.invokevirtual 346, 3) := by decide +kernel
theorem dX12_votes_62 : decode cX12_votes 62 = .ok (.goto 7, 3) := by decide +kernel
theorem dX12_votes_65 : decode cX12_votes 65 = .ok (.aload_n 0, 1) := by decide +kernel
theorem dX12_votes_66 : decode cX12_votes 66 = .ok (.invokevirtual 352, 3) := by decide +kernel
theorem dX12_votes_69 : decode cX12_votes 69 = .ok (.ireturn, 1) := by decide +kernel
theorem dX12_winOver_0 : decode cX12_winOver 0 = .ok (.aload_n 0, 1) := by decide +kernel
theorem dX12_winOver_1 : decode cX12_winOver 1 = .ok (.iload_n 1, 1) := by decide +kernel
theorem dX12_winOver_2 : decode cX12_winOver 2 = .ok (.invokevirtual 314, 3) := by decide +kernel
theorem dX12_winOver_5 : decode cX12_winOver 5 = .ok (.ifCond .eq 13, 3) := by decide +kernel
theorem dX12_winOver_8 : decode cX12_winOver 8 = .ok (.iload_n 2, 1) := by decide +kernel
theorem dX12_winOver_9 : decode cX12_winOver 9 = .ok (.i2l, 1) := by decide +kernel
theorem dX12_winOver_10 : decode cX12_winOver 10 = .ok (.lconst 0, 1) := by decide +kernel
theorem dX12_winOver_11 : decode cX12_winOver 11 = .ok (.lconst 1, 1) := by decide +kernel
theorem dX12_winOver_12 : decode cX12_winOver 12 = .ok (.invokestatic 121, 3) := by decide +kernel
theorem dX12_winOver_15 : decode cX12_winOver 15 = .ok (.ifCond .ne 5, 3) := by decide +kernel
theorem dX12_winOver_18 : decode cX12_winOver 18 = .ok (.iconst (-1), 1) := by decide +kernel
theorem dX12_winOver_19 : decode cX12_winOver 19 = .ok (.ireturn, 1) := by decide +kernel
theorem dX12_winOver_20 : decode cX12_winOver 20 = .ok (.iconst (-1), 1) := by decide +kernel
theorem dX12_winOver_21 : decode cX12_winOver 21 = .ok (.istore_n 3, 1) := by decide +kernel
theorem dX12_winOver_22 : decode cX12_winOver 22 = .ok (.iconst 0, 1) := by decide +kernel
theorem dX12_winOver_23 : decode cX12_winOver 23 = .ok (.istore 4, 2) := by decide +kernel
theorem dX12_winOver_25 : decode cX12_winOver 25 = .ok (.iload 4, 2) := by decide +kernel
theorem dX12_winOver_27 : decode cX12_winOver 27 = .ok (.iconst 1, 1) := by decide +kernel
theorem dX12_winOver_28 : decode cX12_winOver 28 = .ok (.aload_n 0, 1) := by decide +kernel
theorem dX12_winOver_29 : decode cX12_winOver 29 = .ok (.getfield 39, 3) := by decide +kernel
theorem dX12_winOver_32 : decode cX12_winOver 32 = .ok (.iconst 3, 1) := by decide +kernel
theorem dX12_winOver_33 : decode cX12_winOver 33 = .ok (.iaload, 1) := by decide +kernel
theorem dX12_winOver_34 : decode cX12_winOver 34 = .ok (.ishl, 1) := by decide +kernel
theorem dX12_winOver_35 : decode cX12_winOver 35 = .ok (.if_icmp .ge 38, 3) := by decide +kernel
theorem dX12_winOver_38 : decode cX12_winOver 38 = .ok (.iload_n 3, 1) := by decide +kernel
theorem dX12_winOver_39 : decode cX12_winOver 39 = .ok (.ifCond .lt 15, 3) := by decide +kernel
theorem dX12_winOver_42 : decode cX12_winOver 42 = .ok (.iload 4, 2) := by decide +kernel
theorem dX12_winOver_44 : decode cX12_winOver 44 = .ok (.invokestatic 409, 3) := by decide +kernel
theorem dX12_winOver_47 : decode cX12_winOver 47 = .ok (.iload_n 3, 1) := by decide +kernel
theorem dX12_winOver_48 : decode cX12_winOver 48 = .ok (.invokestatic 409, 3) := by decide +kernel
theorem dX12_winOver_51 : decode cX12_winOver 51 = .ok (.if_icmp .ge 16, 3) := by decide +kernel
theorem dX12_winOver_54 : decode cX12_winOver 54 = .ok (.aload_n 0, 1) := by decide +kernel
theorem dX12_winOver_55 : decode cX12_winOver 55 = .ok (.iload_n 1, 1) := by decide +kernel
theorem dX12_winOver_56 : decode cX12_winOver 56 = .ok (.iload 4, 2) := by decide +kernel
theorem dX12_winOver_58 : decode cX12_winOver 58 = .ok (.invokevirtual 427, 3) := by decide +kernel
theorem dX12_winOver_61 : decode cX12_winOver 61 = .ok (.ifCond .eq 6, 3) := by decide +kernel
theorem dX12_winOver_64 : decode cX12_winOver 64 = .ok (.iload 4, 2) := by decide +kernel
theorem dX12_winOver_66 : decode cX12_winOver 66 = .ok (.istore_n 3, 1) := by decide +kernel
theorem dX12_winOver_67 : decode cX12_winOver 67 = .ok (.iinc 4 1, 3) := by decide +kernel
theorem dX12_winOver_70 : decode cX12_winOver 70 = .ok (.goto (-45), 3) := by decide +kernel
theorem dX12_winOver_73 : decode cX12_winOver 73 = .ok (.iload_n 2, 1) := by decide +kernel
theorem dX12_winOver_74 : decode cX12_winOver 74 = .ok (.ifCond .ne 10, 3) := by decide +kernel
theorem dX12_winOver_77 : decode cX12_winOver 77 = .ok (.iload_n 3, 1) := by decide +kernel
theorem dX12_winOver_78 : decode cX12_winOver 78 = .ok (.invokestatic 409, 3) := by decide +kernel
theorem dX12_winOver_81 : decode cX12_winOver 81 = .ok (.goto 4, 3) := by decide +kernel
theorem dX12_winOver_84 : decode cX12_winOver 84 = .ok (.iload_n 3, 1) := by decide +kernel
theorem dX12_winOver_85 : decode cX12_winOver 85 = .ok (.ireturn, 1) := by decide +kernel
theorem dX12_winters_0 : decode cX12_winters 0 = .ok (.aload_n 0, 1) := by decide +kernel
theorem dX12_winters_1 : decode cX12_winters 1 = .ok (.invokevirtual 379, 3) := by decide +kernel
theorem dX12_winters_4 : decode cX12_winters 4 = .ok (.ifCond .eq 50, 3) := by decide +kernel
theorem dX12_winters_7 : decode cX12_winters 7 = .ok (.iload_n 1, 1) := by decide +kernel
theorem dX12_winters_8 : decode cX12_winters 8 = .ok (.i2l, 1) := by decide +kernel
theorem dX12_winters_9 : decode cX12_winters 9 = .ok (.lconst 1, 1) := by decide +kernel
theorem dX12_winters_10 : decode cX12_winters 10 = .ok (.ldc2_w 471, 3) := by decide +kernel
theorem dX12_winters_13 : decode cX12_winters 13 = .ok (.invokestatic 121, 3) := by decide +kernel
theorem dX12_winters_16 : decode cX12_winters 16 = .ok (.ifCond .eq 38, 3) := by decide +kernel
theorem dX12_winters_19 : decode cX12_winters 19 = .ok (.iload_n 2, 1) := by decide +kernel
theorem dX12_winters_20 : decode cX12_winters 20 = .ok (.i2l, 1) := by decide +kernel
theorem dX12_winters_21 : decode cX12_winters 21 = .ok (.lconst 1, 1) := by decide +kernel
theorem dX12_winters_22 : decode cX12_winters 22 = .ok (.ldc2_w 390, 3) := by decide +kernel
theorem dX12_winters_25 : decode cX12_winters 25 = .ok (.invokestatic 121, 3) := by decide +kernel
theorem dX12_winters_28 : decode cX12_winters 28 = .ok (.ifCond .eq 26, 3) := by decide +kernel
theorem dX12_winters_31 : decode cX12_winters 31 = .ok (.iload_n 3, 1) := by decide +kernel
theorem dX12_winters_32 : decode cX12_winters 32 = .ok (.i2l, 1) := by decide +kernel
theorem dX12_winters_33 : decode cX12_winters 33 = .ok (.lconst 0, 1) := by decide +kernel
theorem dX12_winters_34 : decode cX12_winters 34 = .ok (.ldc2_w 473, 3) := by decide +kernel
theorem dX12_winters_37 : decode cX12_winters 37 = .ok (.invokestatic 121, 3) := by decide +kernel
theorem dX12_winters_40 : decode cX12_winters 40 = .ok (.ifCond .eq 14, 3) := by decide +kernel
theorem dX12_winters_43 : decode cX12_winters 43 = .ok (.iload 4, 2) := by decide +kernel
theorem dX12_winters_45 : decode cX12_winters 45 = .ok (.i2l, 1) := by decide +kernel
theorem dX12_winters_46 : decode cX12_winters 46 = .ok (.lconst 0, 1) := by decide +kernel
theorem dX12_winters_47 : decode cX12_winters 47 = .ok (.lconst 1, 1) := by decide +kernel
theorem dX12_winters_48 : decode cX12_winters 48 = .ok (.invokestatic 121, 3) := by decide +kernel
theorem dX12_winters_51 : decode cX12_winters 51 = .ok (.ifCond .ne 5, 3) := by decide +kernel
theorem dX12_winters_54 : decode cX12_winters 54 = .ok (.iconst (-1), 1) := by decide +kernel
theorem dX12_winters_55 : decode cX12_winters 55 = .ok (.ireturn, 1) := by decide +kernel
theorem dX12_winters_56 : decode cX12_winters 56 = .ok (.aload_n 0, 1) := by decide +kernel
theorem dX12_winters_57 : decode cX12_winters 57 = .ok (.aload_n 0, 1) := by decide +kernel
theorem dX12_winters_58 : decode cX12_winters 58 = .ok (.getfield 456, 3) := by decide +kernel
theorem dX12_winters_61 : decode cX12_winters 61 = .ok (.i2l, 1) := by decide +kernel
theorem dX12_winters_62 : decode cX12_winters 62 = .ok (.putfield 459, 3) := by decide +kernel
theorem dX12_winters_65 : decode cX12_winters 65 = .ok (.aload_n 0, 1) := by decide +kernel
theorem dX12_winters_66 : decode cX12_winters 66 = .ok (.iconst 0, 1) := by decide +kernel
theorem dX12_winters_67 : decode cX12_winters 67 = .ok (.putfield 358, 3) := by decide +kernel
theorem dX12_winters_70 : decode cX12_winters 70 = .ok (.iconst 0, 1) := by decide +kernel
theorem dX12_winters_71 : decode cX12_winters 71 = .ok (.istore 5, 2) := by decide +kernel
theorem dX12_winters_73 : decode cX12_winters 73 = .ok (.aload_n 0, 1) := by decide +kernel
theorem dX12_winters_74 : decode cX12_winters 74 = .ok (.invokevirtual 394, 3) := by decide +kernel
theorem dX12_winters_77 : decode cX12_winters 77 = .ok (.iconst 0, 1) := by decide +kernel
theorem dX12_winters_78 : decode cX12_winters 78 = .ok (.istore 6, 2) := by decide +kernel
theorem dX12_winters_80 : decode cX12_winters 80 = .ok (.iload 6, 2) := by decide +kernel
theorem dX12_winters_82 : decode cX12_winters 82 = .ok (.iload_n 1, 1) := by decide +kernel
theorem dX12_winters_83 : decode cX12_winters 83 = .ok (.if_icmp .ge 93, 3) := by decide +kernel
theorem dX12_winters_86 : decode cX12_winters 86 = .ok (.iconst 0, 1) := by decide +kernel
theorem dX12_winters_87 : decode cX12_winters 87 = .ok (.istore 7, 2) := by decide +kernel
theorem dX12_winters_89 : decode cX12_winters 89 = .ok (.iload 7, 2) := by decide +kernel
theorem dX12_winters_91 : decode cX12_winters 91 = .ok (.iload_n 2, 1) := by decide +kernel
theorem dX12_winters_92 : decode cX12_winters 92 = .ok (.if_icmp .ge 58, 3) := by decide +kernel
theorem dX12_winters_95 : decode cX12_winters 95 = .ok (.iconst 0, 1) := by decide +kernel
theorem dX12_winters_96 : decode cX12_winters 96 = .ok (.istore 8, 2) := by decide +kernel
theorem dX12_winters_98 : decode cX12_winters 98 = .ok (.iload 8, 2) := by decide +kernel
theorem dX12_winters_100 : decode cX12_winters 100 = .ok (.aload_n 0, 1) := by decide +kernel
theorem dX12_winters_101 : decode cX12_winters 101 = .ok (.getfield 39, 3) := by decide +kernel
theorem dX12_winters_104 : decode cX12_winters 104 = .ok (.iconst 3, 1) := by decide +kernel
theorem dX12_winters_105 : decode cX12_winters 105 = .ok (.iaload, 1) := by decide +kernel
theorem dX12_winters_106 : decode cX12_winters 106 = .ok (.if_icmp .ge 34, 3) := by decide +kernel
theorem dX12_winters_109 : decode cX12_winters 109 = .ok (.aload_n 0, 1) := by decide +kernel
theorem dX12_winters_110 : decode cX12_winters 110 = .ok (.iload 8, 2) := by decide +kernel
theorem dX12_winters_112 : decode cX12_winters 112 = .ok (.invokevirtual 314, 3) := by decide +kernel
theorem dX12_winters_115 : decode cX12_winters 115 = .ok (.ifCond .eq 19, 3) := by decide +kernel
theorem dX12_winters_118 : decode cX12_winters 118 = .ok (.aload_n 0, 1) := by decide +kernel
theorem dX12_winters_119 : decode cX12_winters 119 = .ok (.bipush 100, 2) := by decide +kernel
theorem dX12_winters_121 : decode cX12_winters 121 = .ok (.invokevirtual 475, 3) := by decide +kernel
theorem dX12_winters_124 : decode cX12_winters 124 = .ok (.iload_n 3, 1) := by decide +kernel
theorem dX12_winters_125 : decode cX12_winters 125 = .ok (.if_icmp .ge 9, 3) := by decide +kernel
theorem dX12_winters_128 : decode cX12_winters 128 = .ok (.aload_n 0, 1) := by decide +kernel
theorem dX12_winters_129 : decode cX12_winters 129 = .ok (.iload 8, 2) := by decide +kernel
theorem dX12_winters_131 : decode cX12_winters 131 = .ok (.invokevirtual 373, 3) := by decide +kernel
theorem dX12_winters_134 : decode cX12_winters 134 = .ok (.iinc 8 1, 3) := by decide +kernel
theorem dX12_winters_137 : decode cX12_winters 137 = .ok (.goto (-39), 3) := by decide +kernel
theorem dX12_winters_140 : decode cX12_winters 140 = .ok (.aload_n 0, 1) := by decide +kernel
theorem dX12_winters_141 : decode cX12_winters 141 = .ok (.invokevirtual 385, 3) := by decide +kernel
theorem dX12_winters_144 : decode cX12_winters 144 = .ok (.iinc 7 1, 3) := by decide +kernel
theorem dX12_winters_147 : decode cX12_winters 147 = .ok (.goto (-58), 3) := by decide +kernel
theorem dX12_winters_150 : decode cX12_winters 150 = .ok (.iload 5, 2) := by decide +kernel
theorem dX12_winters_152 : decode cX12_winters 152 = .ok (.aload_n 0, 1) := by decide +kernel
theorem dX12_winters_153 : decode cX12_winters 153 = .ok (.getfield 39, 3) := by decide +kernel
theorem dX12_winters_156 : decode cX12_winters 156 = .ok (.iconst 3, 1) := by decide +kernel
theorem dX12_winters_157 : decode cX12_winters 157 = .ok (.iaload, 1) := by decide +kernel
theorem dX12_winters_158 : decode cX12_winters 158 = .ok (.aload_n 0, 1) := by decide +kernel
theorem dX12_winters_159 : decode cX12_winters 159 = .ok (.invokevirtual 332, 3) := by decide +kernel
theorem dX12_winters_162 : decode cX12_winters 162 = .ok (.isub, 1) := by decide +kernel
theorem dX12_winters_163 : decode cX12_winters 163 = .ok (.iadd, 1) := by decide +kernel
theorem dX12_winters_164 : decode cX12_winters 164 = .ok (.istore 5, 2) := by decide +kernel
theorem dX12_winters_166 : decode cX12_winters 166 = .ok (.aload_n 0, 1) := by decide +kernel
theorem dX12_winters_167 : decode cX12_winters 167 = .ok (.invokevirtual 397, 3) := by decide +kernel
theorem dX12_winters_170 : decode cX12_winters 170 = .ok (.iinc 6 1, 3) := by decide +kernel
theorem dX12_winters_173 : decode cX12_winters 173 = .ok (.goto (-93), 3) := by decide +kernel
theorem dX12_winters_176 : decode cX12_winters 176 = .ok (.iload 4, 2) := by decide +kernel
theorem dX12_winters_178 : decode cX12_winters 178 = .ok (.ifCond .ne 10, 3) := by decide +kernel
theorem dX12_winters_181 : decode cX12_winters 181 = .ok (.aload_n 0, 1) := by decide +kernel
theorem dX12_winters_182 : decode cX12_winters 182 = .ok (.getfield 358, 3) := by decide +kernel
theorem dX12_winters_185 : decode cX12_winters 185 = .ok (.goto 5, 3) := by decide +kernel
theorem dX12_winters_188 : decode cX12_winters 188 = .ok (.iload 5, 2) := by decide +kernel
theorem dX12_winters_190 : decode cX12_winters 190 = .ok (.ireturn, 1) := by decide +kernel
set_option maxHeartbeats 4000000 in
set_option maxRecDepth 100000 in
theorem t_X12_votes (l : Launch) (dC : Nat → ClassId) (dI : Nat → Nat → Nat) (tys : List (ClassId × FieldType)) (κ : tK) (B : Nat) (ws : va_W) (hT : Ty κ tys B ws) (a0 : Nat) (k_a0 : κ a0 = some 12) (a1 : Int32) (a2 : Int32) (hRT : RT κ ws a0) (sz : Nat) : Met l yX12_votes (ws_u yX12_votes cX12_votes 3 (some .int)) ({ frames := 6, cells := 0, slots := 0, locals := 148 }) (va_Pc [.ref a0, .int a1, .int a2] (cPre (dC, dI) tys ws sz)) (va_Qi (fun (r : Int32) (w : va_W) => Ty κ tys B w ∧ Sm [(12, 18)] [61, 62, 64] κ ws w) (fun w t => cPost (dC, dI) tys w (va_A ws sz) t) (va_A ws sz)) 0 0 (va_A ws sz) := by
  refine Met.ofW (cc := cX12_votes) (maxL := 3) (ret := (some .int)) (by decide) rfl ?_
  intro p e s m args below meth c s₁ B0 hml hv
  obtain ⟨rfl, hsz, hP, hK, hD0, hE⟩ := hv
  have hx := B0.exec
  have hb := B0.bytes
  have hr := B0.returns
  have hts0 := atoms_spec (ws := ws_u yX12_votes cX12_votes 3 (some .int)) B0.pre
  have hts : ∀ w ∈ gT, w.before _ s = true := fun w h => hts0 w (List.mem_cons_of_mem _ h)
  have hown : s.vm.findClass RX12 = some m.cls := findClass_of_methodNamed B0.named
  have hlocks := B0.notSynchronized
  subst hsz
  have hD := hD0.self (sz := s.heap.size)
  generalize hAe : va_A ws s.heap.size = A at hD ⊢
  have hA : ∀ q : Nat, s.heap.size ≤ q → A q := fun q h => by rw [← hAe]; exact Or.inr h
  have hw : tW (dC, dI) tys κ B A s ws s.heap [] := ⟨hK, hP, hD, va_S.rf, hT⟩
  have hM : Sm [(12, 18)] [61, 62, 64] κ ws ws := Sm.rf
  clear hP hK hD hD0 hts0
  have l_a1 := i32_lo a1
  have h_a1 := i32_hi a1
  have l_a2 := i32_lo a2
  have h_a2 := i32_hi a2
  have hl := lv_entry ([.ref a0, .int a1, .int a2]) (n := 3) (Nat.le_of_ble_eq_true rfl)
  rw [lg_entry_eq]
  generalize (lg_sl ([.ref a0, .int a1, .int a2]) ++ List.replicate (3 - (lg_sl ([.ref a0, .int a1, .int a2])).length) Slot.unset).toArray = ls at hl ⊢
  have hl : lv_has ls 3 [(0, .ref a0), (1, .int a1), (2, .int a2)] := hl
  refine t_start (fun QQ hQ => ?_)
  refine lv_aload_n hx hb dX12_votes_0 rfl (lv_at hl 0 rfl) ?_
  refine t_calli (va_runV (As := []) (rest := []) ⟨hx, hb, hml, hown, hts⟩ (t_X12_isChoir l dC dI tys κ B ws hw.2.2.2.2 a0 k_a0 s.heap.size) (cwV 0 hts (gUV tw_1489 tw_1491 ts_5_12 tw_13 tw_1492) rfl rfl rfl (by decide +kernel) ⟨(Nat.le_of_ble_eq_true rfl), (Nat.le_of_ble_eq_true rfl)⟩) ⟨cPre.blind, t_recv hw (ci := 12) k_a0 rfl rfl, cPre.use hw.2.1 hw.1 hw.2.2.1 hE⟩ rfl rfl hl.1 rfl (lv_room (Nat.le_of_ble_eq_true rfl)) dX12_votes_1 ⟨(Nat.le_of_ble_eq_true rfl), (Nat.le_of_ble_eq_true rfl)⟩) hw hA (fun _ _ h => h.2.2.1) (fun v1 w_1 H locs hp hw => ?_)
  obtain ⟨l_v1, h_v1, _, hm⟩ := hp
  have hM := hM.trans hm (by decide) (by decide)
  refine lv_if_eq (tgt := 32) hx hb dX12_votes_4 (by decide) (fun c_4 => ?_) (fun c_4 => ?_)
  · simp only [fa_lt, fa_le, fa_eq, li_0] at c_4
    refine lv_bipush (v := (-2)) hx hb dX12_votes_32 (by decide) ?_
    rw [hQ]
    refine W.widen (k := 0) (n := 0) (Nat.le_refl _) (Nat.le_refl _) ?_
    exact W.iret (v := (-2)) hx hb hr (fun t ht hW => ⟨⟨(-2), w_1, rfl, ⟨hw.2.2.2.2, hM⟩, by rw [ht]; exact hw.2.1, va_K.moved hW.alike hw.1, hw.2.2.1⟩, hw.2.2.2.1.F ht⟩) hw.2.2.2.1.2.2 dX12_votes_34
  · simp only [fa_lt, fa_le, fa_eq, li_0] at c_4
    refine lv_iload_n hx hb dX12_votes_7 rfl (lv_at hl 2 rfl) ?_
    refine lv_i2l hx hb dX12_votes_8 rfl ?_
    refine lv_topl (fun v8 e_v8 => ?_)
    have t_v8 : v8.toInt = a2.toInt := by rw [e_v8, Int32.toInt_toInt64]
    refine lv_lconst (v := 0) hx hb dX12_votes_9 (by decide) ?_
    obtain ⟨v9, e_v9⟩ : ∃ y : Int64, y = 0 := ⟨_, rfl⟩
    refine W.eq (g2 := F0 m 10 ls [.long v9, .long v8]) (by rw [e_v9]) ?_
    have t_v9 : v9.toInt = 0 := by rw [e_v9]; decide
    refine lv_ldc2 (v := 2) hx hb hown (hts _ tw_1597) dX12_votes_10 ?_
    refine lv_topl (fun v10 e_v10 => ?_)
    have t_v10 : v10.toInt = 2 := by rw [e_v10]; decide
    refine t_calli (va_runS (As := [.long v8, .long v9, .long v10]) (rest := []) ⟨hx, hb, hml, hown, hts⟩ (t_X12_in l dC dI tys κ B w_1 hw.2.2.2.2 v8 v9 v10 H.size) (va_cwS 3 hts (gUS tw_1316 tw_1317 tw_13 tw_1318) rfl rfl rfl (by decide +kernel) ⟨(Nat.le_of_ble_eq_true rfl), (Nat.le_of_ble_eq_true rfl)⟩) ⟨cPre.blind, cPre.use hw.2.1 hw.1 hw.2.2.1 hE⟩ rfl rfl hl.1 rfl (lv_room (Nat.le_of_ble_eq_true rfl)) dX12_votes_13 ⟨(Nat.le_of_ble_eq_true rfl), (Nat.le_of_ble_eq_true rfl)⟩) hw hA (fun _ _ h => h.2.2.1) (fun v13 w_2 H locs hp hw => ?_)
    obtain ⟨l_v13, h_v13, _, hm, x_v13_0⟩ := hp
    have hM := hM.trans hm (by decide) (by decide)
    refine lv_if_eq (tgt := 32) hx hb dX12_votes_16 (by decide) (fun c_16 => ?_) (fun c_16 => ?_)
    · simp only [fa_lt, fa_le, fa_eq, li_0] at c_16
      refine lv_bipush (v := (-2)) hx hb dX12_votes_32 (by decide) ?_
      rw [hQ]
      refine W.widen (k := 0) (n := 0) (Nat.le_refl _) (Nat.le_refl _) ?_
      exact W.iret (v := (-2)) hx hb hr (fun t ht hW => ⟨⟨(-2), w_2, rfl, ⟨hw.2.2.2.2, hM⟩, by rw [ht]; exact hw.2.1, va_K.moved hW.alike hw.1, hw.2.2.1⟩, hw.2.2.2.1.F ht⟩) hw.2.2.2.1.2.2 dX12_votes_34
    · simp only [fa_lt, fa_le, fa_eq, li_0] at c_16
      refine lv_iload_n hx hb dX12_votes_19 rfl (lv_at hl 2 rfl) ?_
      refine lv_iconst (v := 2) hx hb dX12_votes_20 (by decide) ?_
      refine lv_icmp_ge (tgt := 35) hx hb dX12_votes_21 (by decide) (fun c_21 => ?_) (fun c_21 => ?_)
      · simp only [fa_lt, fa_le, fa_eq, li_2] at c_21
        refine lv_aload_n hx hb dX12_votes_35 rfl (lv_at hl 0 rfl) ?_
        refine t_callv (va_runV (As := []) (rest := []) ⟨hx, hb, hml, hown, hts⟩ (t_X12_fillsVotes l dC dI tys κ B w_2 hw.2.2.2.2 a0 k_a0 (hRT.sm hM (by decide) (by decide)) H.size) (cwV 0 hts (gUV tw_1509 tw_1511 ts_6_1 tw_13 tw_1512) rfl rfl rfl (by decide +kernel) ⟨(Nat.le_of_ble_eq_true rfl), (Nat.le_of_ble_eq_true rfl)⟩) ⟨cPre.blind, t_recv hw (ci := 12) k_a0 rfl rfl, cPre.use hw.2.1 hw.1 hw.2.2.1 hE⟩ rfl rfl hl.1 rfl (lv_room (Nat.le_of_ble_eq_true rfl)) dX12_votes_36 ⟨(Nat.le_of_ble_eq_true rfl), (Nat.le_of_ble_eq_true rfl)⟩) hw hA (fun _ h => h.1) (fun w_3 H locs hp hw => ?_)
        obtain ⟨_, hm⟩ := hp
        have hM := hM.trans hm (by decide) (by decide)
        refine lv_iload_n hx hb dX12_votes_39 rfl (lv_at hl 2 rfl) ?_
        refine lv_if_ne (tgt := 52) hx hb dX12_votes_40 (by decide) (fun c_40 => ?_) (fun c_40 => by exfalso; simp only [fa_lt, fa_le, fa_eq, li_0] at c_40; omega)
        simp only [fa_lt, fa_le, fa_eq, li_0] at c_40
        refine lv_iload_n hx hb dX12_votes_52 rfl (lv_at hl 2 rfl) ?_
        refine lv_iconst (v := 1) hx hb dX12_votes_53 (by decide) ?_
        refine lv_icmp_ne (tgt := 65) hx hb dX12_votes_54 (by decide) (fun c_54 => ?_) (fun c_54 => by exfalso; simp only [fa_lt, fa_le, fa_eq, li_1] at c_54; omega)
        simp only [fa_lt, fa_le, fa_eq, li_1] at c_54
        refine lv_aload_n hx hb dX12_votes_65 rfl (lv_at hl 0 rfl) ?_
        refine t_calli (va_runV (As := []) (rest := []) ⟨hx, hb, hml, hown, hts⟩ (t_X12_mostVoted l dC dI tys κ B w_3 hw.2.2.2.2 a0 k_a0 H.size) (cwV 0 hts (gUV tw_1548 tw_1550 ts_6_10 tw_13 tw_1551) rfl rfl rfl (by decide +kernel) ⟨(Nat.le_of_ble_eq_true rfl), (Nat.le_of_ble_eq_true rfl)⟩) ⟨cPre.blind, t_recv hw (ci := 12) k_a0 rfl rfl, cPre.use hw.2.1 hw.1 hw.2.2.1 hE⟩ rfl rfl hl.1 rfl (lv_room (Nat.le_of_ble_eq_true rfl)) dX12_votes_66 ⟨(Nat.le_of_ble_eq_true rfl), (Nat.le_of_ble_eq_true rfl)⟩) hw hA (fun _ _ h => h.2.2.1) (fun v66 w_4 H locs hp hw => ?_)
        obtain ⟨l_v66, h_v66, _, hm⟩ := hp
        have hM := hM.trans hm (by decide) (by decide)
        rw [hQ]
        refine W.widen (k := 0) (n := 0) (Nat.le_refl _) (Nat.le_refl _) ?_
        exact W.iret (v := v66) hx hb hr (fun t ht hW => ⟨⟨v66, w_4, rfl, ⟨hw.2.2.2.2, hM⟩, by rw [ht]; exact hw.2.1, va_K.moved hW.alike hw.1, hw.2.2.1⟩, hw.2.2.2.1.F ht⟩) hw.2.2.2.1.2.2 dX12_votes_69
      · simp only [fa_lt, fa_le, fa_eq, li_2] at c_21
        refine lv_aload_n hx hb dX12_votes_24 rfl (lv_at hl 0 rfl) ?_
        refine lv_iload_n hx hb dX12_votes_25 rfl (lv_at hl 1 rfl) ?_
        refine t_calli (va_runV (As := [.int a1]) (rest := []) ⟨hx, hb, hml, hown, hts⟩ (t_X12_isBoy l dC dI tys κ B w_2 hw.2.2.2.2 a0 k_a0 a1 H.size) (cwV 1 hts (gUV tw_1448 tw_1450 ts_5_7 tw_13 tw_1451) rfl rfl rfl (by decide +kernel) ⟨(Nat.le_of_ble_eq_true rfl), (Nat.le_of_ble_eq_true rfl)⟩) ⟨cPre.blind, t_recv hw (ci := 12) k_a0 rfl rfl, cPre.use hw.2.1 hw.1 hw.2.2.1 hE⟩ rfl rfl hl.1 rfl (lv_room (Nat.le_of_ble_eq_true rfl)) dX12_votes_26 ⟨(Nat.le_of_ble_eq_true rfl), (Nat.le_of_ble_eq_true rfl)⟩) hw hA (fun _ _ h => h.2.2.1) (fun v26 w_5 H locs hp hw => ?_)
        obtain ⟨l_v26, h_v26, _, hm, x_v26_0⟩ := hp
        have hM := hM.trans hm (by decide) (by decide)
        refine lv_if_ne (tgt := 35) hx hb dX12_votes_29 (by decide) (fun c_29 => ?_) (fun c_29 => ?_)
        · simp only [fa_lt, fa_le, fa_eq, li_0] at c_29
          refine lv_aload_n hx hb dX12_votes_35 rfl (lv_at hl 0 rfl) ?_
          refine t_callv (va_runV (As := []) (rest := []) ⟨hx, hb, hml, hown, hts⟩ (t_X12_fillsVotes l dC dI tys κ B w_5 hw.2.2.2.2 a0 k_a0 (hRT.sm hM (by decide) (by decide)) H.size) (cwV 0 hts (gUV tw_1509 tw_1511 ts_6_1 tw_13 tw_1512) rfl rfl rfl (by decide +kernel) ⟨(Nat.le_of_ble_eq_true rfl), (Nat.le_of_ble_eq_true rfl)⟩) ⟨cPre.blind, t_recv hw (ci := 12) k_a0 rfl rfl, cPre.use hw.2.1 hw.1 hw.2.2.1 hE⟩ rfl rfl hl.1 rfl (lv_room (Nat.le_of_ble_eq_true rfl)) dX12_votes_36 ⟨(Nat.le_of_ble_eq_true rfl), (Nat.le_of_ble_eq_true rfl)⟩) hw hA (fun _ h => h.1) (fun w_6 H locs hp hw => ?_)
          obtain ⟨_, hm⟩ := hp
          have hM := hM.trans hm (by decide) (by decide)
          refine lv_iload_n hx hb dX12_votes_39 rfl (lv_at hl 2 rfl) ?_
          refine lv_if_ne (tgt := 52) hx hb dX12_votes_40 (by decide) (fun c_40 => ?_) (fun c_40 => ?_)
          · simp only [fa_lt, fa_le, fa_eq, li_0] at c_40
            refine lv_iload_n hx hb dX12_votes_52 rfl (lv_at hl 2 rfl) ?_
            refine lv_iconst (v := 1) hx hb dX12_votes_53 (by decide) ?_
            refine lv_icmp_ne (tgt := 65) hx hb dX12_votes_54 (by decide) (fun c_54 => by exfalso; simp only [fa_lt, fa_le, fa_eq, li_1] at c_54; omega) (fun c_54 => ?_)
            simp only [fa_lt, fa_le, fa_eq, li_1] at c_54
            refine lv_aload_n hx hb dX12_votes_57 rfl (lv_at hl 0 rfl) ?_
            refine lv_iload_n hx hb dX12_votes_58 rfl (lv_at hl 1 rfl) ?_
            refine t_calli (va_runV (As := [.int a1]) (rest := []) ⟨hx, hb, hml, hown, hts⟩ (t_X12_votesOf l dC dI tys κ B w_6 hw.2.2.2.2 a0 k_a0 a1 (by omega) (by omega) H.size) (cwV 1 hts (gUV tw_1552 tw_1554 ts_6_11 tw_13 tw_1555) rfl rfl rfl (by decide +kernel) ⟨(Nat.le_of_ble_eq_true rfl), (Nat.le_of_ble_eq_true rfl)⟩) ⟨cPre.blind, t_recv hw (ci := 12) k_a0 rfl rfl, cPre.use hw.2.1 hw.1 hw.2.2.1 hE⟩ rfl rfl hl.1 rfl (lv_room (Nat.le_of_ble_eq_true rfl)) dX12_votes_59 ⟨(Nat.le_of_ble_eq_true rfl), (Nat.le_of_ble_eq_true rfl)⟩) hw hA (fun _ _ h => h.1) (fun v59 w_7 H locs hp hw => ?_)
            obtain ⟨_, hm⟩ := hp
            have l_v59 := i32_lo v59
            have h_v59 := i32_hi v59
            have hM := hM.trans hm (by decide) (by decide)
            refine lv_goto (tgt := 69) hx hb dX12_votes_62 (by decide) ?_
            rw [hQ]
            refine W.widen (k := 0) (n := 0) (Nat.le_refl _) (Nat.le_refl _) ?_
            exact W.iret (v := v59) hx hb hr (fun t ht hW => ⟨⟨v59, w_7, rfl, ⟨hw.2.2.2.2, hM⟩, by rw [ht]; exact hw.2.1, va_K.moved hW.alike hw.1, hw.2.2.1⟩, hw.2.2.2.1.F ht⟩) hw.2.2.2.1.2.2 dX12_votes_69
          · simp only [fa_lt, fa_le, fa_eq, li_0] at c_40
            refine lv_aload_n hx hb dX12_votes_43 rfl (lv_at hl 0 rfl) ?_
            refine t_getr (k1 := 64) (ci := 12) (C := RX12) (T := TX12) (N := 38) hx hb hts iX12 hown hw k_a0 rfl rfl rfl 23 (by decide) (hts _ tw_1148) (fun _ h9 => h9) dX12_votes_44 rfl (fun v44 k_v44 f_a0_X12_23 => ?_)
            refine lv_iload_n hx hb dX12_votes_47 rfl (lv_at hl 1 rfl) ?_
            refine t_iald hx hb hw k_v44 rfl rfl (by omega) (show a1.toInt < 6 by omega) dX12_votes_48 (fun v48 r_v48 s_v48 q_v48 => ?_)
            have l_v48 := i32_lo v48
            have h_v48 := i32_hi v48
            refine lv_goto (tgt := 69) hx hb dX12_votes_49 (by decide) ?_
            rw [hQ]
            refine W.widen (k := 0) (n := 0) (Nat.le_refl _) (Nat.le_refl _) ?_
            exact W.iret (v := v48) hx hb hr (fun t ht hW => ⟨⟨v48, w_6, rfl, ⟨hw.2.2.2.2, hM⟩, by rw [ht]; exact hw.2.1, va_K.moved hW.alike hw.1, hw.2.2.1⟩, hw.2.2.2.1.F ht⟩) hw.2.2.2.1.2.2 dX12_votes_69
        · simp only [fa_lt, fa_le, fa_eq, li_0] at c_29
          refine lv_bipush (v := (-2)) hx hb dX12_votes_32 (by decide) ?_
          rw [hQ]
          refine W.widen (k := 0) (n := 0) (Nat.le_refl _) (Nat.le_refl _) ?_
          exact W.iret (v := (-2)) hx hb hr (fun t ht hW => ⟨⟨(-2), w_5, rfl, ⟨hw.2.2.2.2, hM⟩, by rw [ht]; exact hw.2.1, va_K.moved hW.alike hw.1, hw.2.2.1⟩, hw.2.2.2.1.F ht⟩) hw.2.2.2.1.2.2 dX12_votes_34
set_option maxHeartbeats 4000000 in
set_option maxRecDepth 100000 in
theorem t_X12_winOver (l : Launch) (dC : Nat → ClassId) (dI : Nat → Nat → Nat) (tys : List (ClassId × FieldType)) (κ : tK) (B : Nat) (ws : va_W) (hT : Ty κ tys B ws) (a0 : Nat) (k_a0 : κ a0 = some 12) (a1 : Int32) (a2 : Int32) (hRT : RT κ ws a0) (sz : Nat) : Met l yX12_winOver (ws_u yX12_winOver cX12_winOver 5 (some .int)) ({ frames := 7, cells := 0, slots := 0, locals := 171 }) (va_Pc [.ref a0, .int a1, .int a2] (cPre (dC, dI) tys ws sz)) (va_Qi (fun (r : Int32) (w : va_W) => Ty κ tys B w ∧ Sm [(12, 18)] [61, 62, 64] κ ws w) (fun w t => cPost (dC, dI) tys w (va_A ws sz) t) (va_A ws sz)) 0 0 (va_A ws sz) := by
  refine Met.ofW (cc := cX12_winOver) (maxL := 5) (ret := (some .int)) (by decide) rfl ?_
  intro p e s m args below meth c s₁ B0 hml hv
  obtain ⟨rfl, hsz, hP, hK, hD0, hE⟩ := hv
  have hx := B0.exec
  have hb := B0.bytes
  have hr := B0.returns
  have hts0 := atoms_spec (ws := ws_u yX12_winOver cX12_winOver 5 (some .int)) B0.pre
  have hts : ∀ w ∈ gT, w.before _ s = true := fun w h => hts0 w (List.mem_cons_of_mem _ h)
  have hown : s.vm.findClass RX12 = some m.cls := findClass_of_methodNamed B0.named
  have hlocks := B0.notSynchronized
  subst hsz
  have hD := hD0.self (sz := s.heap.size)
  generalize hAe : va_A ws s.heap.size = A at hD ⊢
  have hA : ∀ q : Nat, s.heap.size ≤ q → A q := fun q h => by rw [← hAe]; exact Or.inr h
  have hw : tW (dC, dI) tys κ B A s ws s.heap [] := ⟨hK, hP, hD, va_S.rf, hT⟩
  have hM : Sm [(12, 18)] [61, 62, 64] κ ws ws := Sm.rf
  clear hP hK hD hD0 hts0
  have l_a1 := i32_lo a1
  have h_a1 := i32_hi a1
  have l_a2 := i32_lo a2
  have h_a2 := i32_hi a2
  have hl := lv_entry ([.ref a0, .int a1, .int a2]) (n := 5) (Nat.le_of_ble_eq_true rfl)
  rw [lg_entry_eq]
  generalize (lg_sl ([.ref a0, .int a1, .int a2]) ++ List.replicate (5 - (lg_sl ([.ref a0, .int a1, .int a2])).length) Slot.unset).toArray = ls at hl ⊢
  have hl : lv_has ls 5 [(0, .ref a0), (1, .int a1), (2, .int a2)] := hl
  refine t_start (fun QQ hQ => ?_)
  refine lv_aload_n hx hb dX12_winOver_0 rfl (lv_at hl 0 rfl) ?_
  refine lv_iload_n hx hb dX12_winOver_1 rfl (lv_at hl 1 rfl) ?_
  refine t_calli (va_runV (As := [.int a1]) (rest := []) ⟨hx, hb, hml, hown, hts⟩ (t_X12_isSound l dC dI tys κ B ws hw.2.2.2.2 a0 k_a0 a1 s.heap.size) (cwV 1 hts (gUV tw_1517 tw_1519 ts_6_3 tw_13 tw_1520) rfl rfl rfl (by decide +kernel) ⟨(Nat.le_of_ble_eq_true rfl), (Nat.le_of_ble_eq_true rfl)⟩) ⟨cPre.blind, t_recv hw (ci := 12) k_a0 rfl rfl, cPre.use hw.2.1 hw.1 hw.2.2.1 hE⟩ rfl rfl hl.1 rfl (lv_room (Nat.le_of_ble_eq_true rfl)) dX12_winOver_2 ⟨(Nat.le_of_ble_eq_true rfl), (Nat.le_of_ble_eq_true rfl)⟩) hw hA (fun _ _ h => h.2.2.1) (fun v2 w_1 H locs hp hw => ?_)
  obtain ⟨l_v2, h_v2, _, hm, x_v2_0⟩ := hp
  have hM := hM.trans hm (by decide) (by decide)
  refine lv_if_eq (tgt := 18) hx hb dX12_winOver_5 (by decide) (fun c_5 => ?_) (fun c_5 => ?_)
  · simp only [fa_lt, fa_le, fa_eq, li_0] at c_5
    refine lv_iconst (v := (-1)) hx hb dX12_winOver_18 (by decide) ?_
    rw [hQ]
    refine W.widen (k := 0) (n := 0) (Nat.le_refl _) (Nat.le_refl _) ?_
    exact W.iret (v := (-1)) hx hb hr (fun t ht hW => ⟨⟨(-1), w_1, rfl, ⟨hw.2.2.2.2, hM⟩, by rw [ht]; exact hw.2.1, va_K.moved hW.alike hw.1, hw.2.2.1⟩, hw.2.2.2.1.F ht⟩) hw.2.2.2.1.2.2 dX12_winOver_19
  · simp only [fa_lt, fa_le, fa_eq, li_0] at c_5
    refine lv_iload_n hx hb dX12_winOver_8 rfl (lv_at hl 2 rfl) ?_
    refine lv_i2l hx hb dX12_winOver_9 rfl ?_
    refine lv_topl (fun v9 e_v9 => ?_)
    have t_v9 : v9.toInt = a2.toInt := by rw [e_v9, Int32.toInt_toInt64]
    refine lv_lconst (v := 0) hx hb dX12_winOver_10 (by decide) ?_
    obtain ⟨v10, e_v10⟩ : ∃ y : Int64, y = 0 := ⟨_, rfl⟩
    refine W.eq (g2 := F0 m 11 ls [.long v10, .long v9]) (by rw [e_v10]) ?_
    have t_v10 : v10.toInt = 0 := by rw [e_v10]; decide
    refine lv_lconst (v := 1) hx hb dX12_winOver_11 (by decide) ?_
    obtain ⟨v11, e_v11⟩ : ∃ y : Int64, y = 1 := ⟨_, rfl⟩
    refine W.eq (g2 := F0 m 12 ls [.long v11, .long v10, .long v9]) (by rw [e_v11]) ?_
    have t_v11 : v11.toInt = 1 := by rw [e_v11]; decide
    refine t_calli (va_runS (As := [.long v9, .long v10, .long v11]) (rest := []) ⟨hx, hb, hml, hown, hts⟩ (t_X12_in l dC dI tys κ B w_1 hw.2.2.2.2 v9 v10 v11 H.size) (va_cwS 3 hts (gUS tw_1316 tw_1317 tw_13 tw_1318) rfl rfl rfl (by decide +kernel) ⟨(Nat.le_of_ble_eq_true rfl), (Nat.le_of_ble_eq_true rfl)⟩) ⟨cPre.blind, cPre.use hw.2.1 hw.1 hw.2.2.1 hE⟩ rfl rfl hl.1 rfl (lv_room (Nat.le_of_ble_eq_true rfl)) dX12_winOver_12 ⟨(Nat.le_of_ble_eq_true rfl), (Nat.le_of_ble_eq_true rfl)⟩) hw hA (fun _ _ h => h.2.2.1) (fun v12 w_2 H locs hp hw => ?_)
    obtain ⟨l_v12, h_v12, _, hm, x_v12_0⟩ := hp
    have hM := hM.trans hm (by decide) (by decide)
    refine lv_if_ne (tgt := 20) hx hb dX12_winOver_15 (by decide) (fun c_15 => ?_) (fun c_15 => ?_)
    · simp only [fa_lt, fa_le, fa_eq, li_0] at c_15
      refine lv_iconst (v := (-1)) hx hb dX12_winOver_20 (by decide) ?_
      refine lv_istore_n (lv' := [(3, .int (-1)), (0, .ref a0), (1, .int a1), (2, .int a2)]) hx hb dX12_winOver_21 rfl hl (by decide) rfl (fun ls hl => ?_)
      refine lv_iconst (v := 0) hx hb dX12_winOver_22 (by decide) ?_
      refine lv_istore (lv' := [(4, .int 0), (3, .int (-1)), (0, .ref a0), (1, .int a1), (2, .int a2)]) hx hb dX12_winOver_23 hl (by decide) rfl (fun ls hl => ?_)
      have J25 : ∀ (n : Nat) (H : Heap) (locs : List Loc) (ls : Array Slot), (∃ (w25 : va_W) (p25_l3 : Int32) (p25_l4 : Int32), tW (dC, dI) tys κ B A s w25 H locs ∧ Sm [(12, 18)] [61, 62, 64] κ ws w25 ∧ (-1) ≤ p25_l3.toInt ∧ p25_l3.toInt ≤ 64 ∧ 0 ≤ p25_l4.toInt ∧ p25_l4.toInt ≤ 64 ∧ lv_has ls 5 [(0, .ref a0), (1, .int a1), (2, .int a2), (3, .int p25_l3), (4, .int p25_l4)] ∧ (64 - p25_l4.toInt).toNat = n) → W p l e (headSpec (ws_u yX12_winOver cX12_winOver 5 (some .int)) ({ frames := 7, cells := 0, slots := 0, locals := 171 })).room s m ([.ref a0, .int a1, .int a2] : List Value).toArray below meth c H locs 0 0 QQ (F0 m 25 ls []) := by
        refine loopT _ ?_
        intro n_25 H locs ls hI ih_25
        obtain ⟨w25, p25_l3, p25_l4, hw, hM, l_p25_l3, h_p25_l3, l_p25_l4, h_p25_l4, hl, hn_25⟩ := hI
        refine lv_iload hx hb dX12_winOver_25 (lv_at hl 4 rfl) ?_
        refine lv_iconst (v := 1) hx hb dX12_winOver_27 (by decide) ?_
        refine lv_aload_n hx hb dX12_winOver_28 rfl (lv_at hl 0 rfl) ?_
        refine t_getr (k1 := 63) (ci := 12) (C := RX12) (T := TX12) (N := 38) hx hb hts iX12 hown hw k_a0 rfl rfl rfl 20 (by decide) (hts _ tw_1145) (fun _ h9 => h9) dX12_winOver_29 rfl (fun v29 k_v29 f_a0_X12_20 => ?_)
        refine lv_iconst (v := 3) hx hb dX12_winOver_32 (by decide) ?_
        refine t_iald hx hb hw k_v29 rfl rfl (by decide) (by decide) dX12_winOver_33 (fun v33 r_v33 s_v33 f_v29_M_said_3 => ?_)
        have l_v33 : 0 ≤ v33.toInt := by rw [iv_63_3] at r_v33; exact r_v33
        have h_v33 : v33.toInt ≤ 6 := by rw [iv_63_3] at s_v33; exact s_v33
        refine lv_ishl hx hb dX12_winOver_34 ?_
        refine lv_topi (fun v34 e_v34 => ?_)
        have ⟨l_v34, h_v34⟩ := sh_i e_v34 (by omega) (by omega)
        refine lv_icmp_ge (tgt := 73) hx hb dX12_winOver_35 (by decide) (fun c_35 => ?_) (fun c_35 => ?_)
        · simp only [fa_lt, fa_le, fa_eq] at c_35
          refine lv_iload_n hx hb dX12_winOver_73 rfl (lv_at hl 2 rfl) ?_
          refine lv_if_ne (tgt := 84) hx hb dX12_winOver_74 (by decide) (fun c_74 => ?_) (fun c_74 => ?_)
          · simp only [fa_lt, fa_le, fa_eq, li_0] at c_74
            refine lv_iload_n hx hb dX12_winOver_84 rfl (lv_at hl 3 rfl) ?_
            rw [hQ]
            refine W.widen (k := 0) (n := 0) (Nat.le_refl _) (Nat.le_refl _) ?_
            exact W.iret (v := p25_l3) hx hb hr (fun t ht hW => ⟨⟨p25_l3, w25, rfl, ⟨hw.2.2.2.2, hM⟩, by rw [ht]; exact hw.2.1, va_K.moved hW.alike hw.1, hw.2.2.1⟩, hw.2.2.2.1.F ht⟩) hw.2.2.2.1.2.2 dX12_winOver_85
          · simp only [fa_lt, fa_le, fa_eq, li_0] at c_74
            refine lv_iload_n hx hb dX12_winOver_77 rfl (lv_at hl 3 rfl) ?_
            refine t_calli (va_runS (As := [.int p25_l3]) (rest := []) ⟨hx, hb, hml, hown, hts⟩ (t_X12_bits l dC dI tys κ B w25 hw.2.2.2.2 p25_l3 H.size) (va_cwS 1 hts (gUS tw_1634 tw_1635 tw_13 tw_1636) rfl rfl rfl (by decide +kernel) ⟨(Nat.le_of_ble_eq_true rfl), (Nat.le_of_ble_eq_true rfl)⟩) ⟨cPre.blind, cPre.use hw.2.1 hw.1 hw.2.2.1 hE⟩ rfl rfl hl.1 rfl (lv_room (Nat.le_of_ble_eq_true rfl)) dX12_winOver_78 ⟨(Nat.le_of_ble_eq_true rfl), (Nat.le_of_ble_eq_true rfl)⟩) hw hA (fun _ _ h => h.1) (fun v78 w_3 H locs hp hw => ?_)
            obtain ⟨_, hm, x_v78_0⟩ := hp
            have l_v78 := i32_lo v78
            have h_v78 := i32_hi v78
            have hM := hM.trans hm (by decide) (by decide)
            have f_a0_X12_20 := hm.1 _ _ _ _ f_a0_X12_20 (by decide)
            have f_v29_M_said_3 := hm.elt k_v29 (by decide) f_v29_M_said_3
            refine lv_goto (tgt := 85) hx hb dX12_winOver_81 (by decide) ?_
            rw [hQ]
            refine W.widen (k := 0) (n := 0) (Nat.le_refl _) (Nat.le_refl _) ?_
            exact W.iret (v := v78) hx hb hr (fun t ht hW => ⟨⟨v78, w_3, rfl, ⟨hw.2.2.2.2, hM⟩, by rw [ht]; exact hw.2.1, va_K.moved hW.alike hw.1, hw.2.2.1⟩, hw.2.2.2.1.F ht⟩) hw.2.2.2.1.2.2 dX12_winOver_85
        · simp only [fa_lt, fa_le, fa_eq] at c_35
          refine lv_iload_n hx hb dX12_winOver_38 rfl (lv_at hl 3 rfl) ?_
          have J67 : ∀ (H : Heap) (locs : List Loc) (ls : Array Slot) (w67 : va_W) (p67_l3 : Int32), tW (dC, dI) tys κ B A s w67 H locs → Sm [(12, 18)] [61, 62, 64] κ ws w67 → (-1) ≤ p67_l3.toInt → p67_l3.toInt ≤ 64 → fld w67 a0 12 20 (.ref v29) → elt w67 v29 (3 : Int32).toInt.toNat v33 → lv_has ls 5 [(0, .ref a0), (1, .int a1), (2, .int a2), (3, .int p67_l3), (4, .int p25_l4)] → W p l e (headSpec (ws_u yX12_winOver cX12_winOver 5 (some .int)) ({ frames := 7, cells := 0, slots := 0, locals := 171 })).room s m ([.ref a0, .int a1, .int a2] : List Value).toArray below meth c H locs 0 0 QQ (F0 m 67 ls []) := by
            intro H locs ls w67 p67_l3 hw hM l_p67_l3 h_p67_l3 f_a0_X12_20 f_v29_M_said_3 hl
            obtain ⟨v67, e_v67⟩ : ∃ y : Int32, y = p25_l4 + 1 := ⟨_, rfl⟩
            refine lv_iinc (v := v67) (lv' := [(4, .int v67), (0, .ref a0), (1, .int a1), (2, .int a2), (3, .int p67_l3)]) hx hb dX12_winOver_67 hl (k := 4) rfl e_v67.symm (by decide) rfl (fun ls hl => ?_)
            have e_v67 : v67.toInt = p25_l4.toInt + 1 := ad_i e_v67 rfl li_1 (by omega) (by omega)
            refine lv_goto (tgt := 25) hx hb dX12_winOver_70 (by decide) ?_
            exact ih_25 _ _ _ _ (by omega) ⟨w67, p67_l3, v67, hw, hM, (by omega), (by omega), (by omega), (by omega), (lv_sub hl [1, 2, 3, 4, 0] rfl), rfl⟩
          have J54 : ∀ (H : Heap) (locs : List Loc) (ls : Array Slot) (w54 : va_W), tW (dC, dI) tys κ B A s w54 H locs → Sm [(12, 18)] [61, 62, 64] κ ws w54 → fld w54 a0 12 20 (.ref v29) → elt w54 v29 (3 : Int32).toInt.toNat v33 → lv_has ls 5 [(0, .ref a0), (1, .int a1), (2, .int a2), (3, .int p25_l3), (4, .int p25_l4)] → W p l e (headSpec (ws_u yX12_winOver cX12_winOver 5 (some .int)) ({ frames := 7, cells := 0, slots := 0, locals := 171 })).room s m ([.ref a0, .int a1, .int a2] : List Value).toArray below meth c H locs 0 0 QQ (F0 m 54 ls []) := by
            intro H locs ls w54 hw hM f_a0_X12_20 f_v29_M_said_3 hl
            refine lv_aload_n hx hb dX12_winOver_54 rfl (lv_at hl 0 rfl) ?_
            refine lv_iload_n hx hb dX12_winOver_55 rfl (lv_at hl 1 rfl) ?_
            refine lv_iload hx hb dX12_winOver_56 (lv_at hl 4 rfl) ?_
            refine t_calli (va_runV (As := [.int a1, .int p25_l4]) (rest := []) ⟨hx, hb, hml, hown, hts⟩ (t_X12_isWonBy l dC dI tys κ B w54 hw.2.2.2.2 a0 k_a0 a1 (by omega) (by omega) p25_l4 (by omega) (by omega) (hRT.sm hM (by decide) (by decide)) H.size) (cwV 2 hts (gUV tw_1656 tw_1658 ts_7_9 tw_13 tw_1659) rfl rfl rfl (by decide +kernel) ⟨(Nat.le_of_ble_eq_true rfl), (Nat.le_of_ble_eq_true rfl)⟩) ⟨cPre.blind, t_recv hw (ci := 12) k_a0 rfl rfl, cPre.use hw.2.1 hw.1 hw.2.2.1 hE⟩ rfl rfl hl.1 rfl (lv_room (Nat.le_of_ble_eq_true rfl)) dX12_winOver_58 ⟨(Nat.le_of_ble_eq_true rfl), (Nat.le_of_ble_eq_true rfl)⟩) hw hA (fun _ _ h => h.2.2.1) (fun v58 w_4 H locs hp hw => ?_)
            obtain ⟨l_v58, h_v58, _, hm⟩ := hp
            have hM := hM.trans hm (by decide) (by decide)
            have f_a0_X12_20 := hm.1 _ _ _ _ f_a0_X12_20 (by decide)
            have f_v29_M_said_3 := hm.elt k_v29 (by decide) f_v29_M_said_3
            refine lv_if_eq (tgt := 67) hx hb dX12_winOver_61 (by decide) (fun c_61 => ?_) (fun c_61 => ?_)
            · simp only [fa_lt, fa_le, fa_eq, li_0] at c_61
              exact J67 _ _ _ w_4 p25_l3 hw hM (by omega) (by omega) f_a0_X12_20 f_v29_M_said_3 (lv_sub hl [0, 1, 2, 3, 4] rfl)
            · simp only [fa_lt, fa_le, fa_eq, li_0] at c_61
              refine lv_iload hx hb dX12_winOver_64 (lv_at hl 4 rfl) ?_
              refine lv_istore_n (lv' := [(3, .int p25_l4), (0, .ref a0), (1, .int a1), (2, .int a2), (4, .int p25_l4)]) hx hb dX12_winOver_66 rfl hl (by decide) rfl (fun ls hl => ?_)
              exact J67 _ _ _ w_4 p25_l4 hw hM (by omega) (by omega) f_a0_X12_20 f_v29_M_said_3 (lv_sub hl [1, 2, 3, 0, 4] rfl)
          refine lv_if_lt (tgt := 54) hx hb dX12_winOver_39 (by decide) (fun c_39 => ?_) (fun c_39 => ?_)
          · simp only [fa_lt, fa_le, fa_eq, li_0] at c_39
            exact J54 _ _ _ w25 hw hM f_a0_X12_20 f_v29_M_said_3 (lv_sub hl [0, 1, 2, 3, 4] rfl)
          · simp only [fa_lt, fa_le, fa_eq, li_0] at c_39
            refine lv_iload hx hb dX12_winOver_42 (lv_at hl 4 rfl) ?_
            refine t_calli (va_runS (As := [.int p25_l4]) (rest := []) ⟨hx, hb, hml, hown, hts⟩ (t_X12_bits l dC dI tys κ B w25 hw.2.2.2.2 p25_l4 H.size) (va_cwS 1 hts (gUS tw_1634 tw_1635 tw_13 tw_1636) rfl rfl rfl (by decide +kernel) ⟨(Nat.le_of_ble_eq_true rfl), (Nat.le_of_ble_eq_true rfl)⟩) ⟨cPre.blind, cPre.use hw.2.1 hw.1 hw.2.2.1 hE⟩ rfl rfl hl.1 rfl (lv_room (Nat.le_of_ble_eq_true rfl)) dX12_winOver_44 ⟨(Nat.le_of_ble_eq_true rfl), (Nat.le_of_ble_eq_true rfl)⟩) hw hA (fun _ _ h => h.1) (fun v44 w_5 H locs hp hw => ?_)
            obtain ⟨_, hm, x_v44_0⟩ := hp
            have l_v44 := i32_lo v44
            have h_v44 := i32_hi v44
            have hM := hM.trans hm (by decide) (by decide)
            have f_a0_X12_20 := hm.1 _ _ _ _ f_a0_X12_20 (by decide)
            have f_v29_M_said_3 := hm.elt k_v29 (by decide) f_v29_M_said_3
            refine lv_iload_n hx hb dX12_winOver_47 rfl (lv_at hl 3 rfl) ?_
            refine t_calli (va_runS (As := [.int p25_l3]) (rest := [.int v44]) ⟨hx, hb, hml, hown, hts⟩ (t_X12_bits l dC dI tys κ B w_5 hw.2.2.2.2 p25_l3 H.size) (va_cwS 1 hts (gUS tw_1634 tw_1635 tw_13 tw_1636) rfl rfl rfl (by decide +kernel) ⟨(Nat.le_of_ble_eq_true rfl), (Nat.le_of_ble_eq_true rfl)⟩) ⟨cPre.blind, cPre.use hw.2.1 hw.1 hw.2.2.1 hE⟩ rfl rfl hl.1 rfl (lv_room (Nat.le_of_ble_eq_true rfl)) dX12_winOver_48 ⟨(Nat.le_of_ble_eq_true rfl), (Nat.le_of_ble_eq_true rfl)⟩) hw hA (fun _ _ h => h.1) (fun v48 w_6 H locs hp hw => ?_)
            obtain ⟨_, hm, x_v48_0⟩ := hp
            have l_v48 := i32_lo v48
            have h_v48 := i32_hi v48
            have hM := hM.trans hm (by decide) (by decide)
            have f_a0_X12_20 := hm.1 _ _ _ _ f_a0_X12_20 (by decide)
            have f_v29_M_said_3 := hm.elt k_v29 (by decide) f_v29_M_said_3
            refine lv_icmp_ge (tgt := 67) hx hb dX12_winOver_51 (by decide) (fun c_51 => ?_) (fun c_51 => ?_)
            · simp only [fa_lt, fa_le, fa_eq] at c_51
              exact J67 _ _ _ w_6 p25_l3 hw hM (by omega) (by omega) f_a0_X12_20 f_v29_M_said_3 (lv_sub hl [0, 1, 2, 3, 4] rfl)
            · simp only [fa_lt, fa_le, fa_eq] at c_51
              exact J54 _ _ _ w_6 hw hM f_a0_X12_20 f_v29_M_said_3 (lv_sub hl [0, 1, 2, 3, 4] rfl)
      exact J25 _ _ _ _ ⟨w_2, (-1), 0, hw, hM, (by decide), (by decide), (by decide), (by decide), (lv_sub hl [2, 3, 4, 1, 0] rfl), rfl⟩
    · simp only [fa_lt, fa_le, fa_eq, li_0] at c_15
      refine lv_iconst (v := (-1)) hx hb dX12_winOver_18 (by decide) ?_
      rw [hQ]
      refine W.widen (k := 0) (n := 0) (Nat.le_refl _) (Nat.le_refl _) ?_
      exact W.iret (v := (-1)) hx hb hr (fun t ht hW => ⟨⟨(-1), w_2, rfl, ⟨hw.2.2.2.2, hM⟩, by rw [ht]; exact hw.2.1, va_K.moved hW.alike hw.1, hw.2.2.1⟩, hw.2.2.2.1.F ht⟩) hw.2.2.2.1.2.2 dX12_winOver_19
set_option maxHeartbeats 4000000 in
set_option maxRecDepth 100000 in
theorem t_X12_winters (l : Launch) (dC : Nat → ClassId) (dI : Nat → Nat → Nat) (tys : List (ClassId × FieldType)) (κ : tK) (B : Nat) (ws : va_W) (hT : Ty κ tys B ws) (a0 : Nat) (k_a0 : κ a0 = some 12) (a1 : Int32) (a2 : Int32) (a3 : Int32) (a4 : Int32) (f0 : Nat) (k_f0 : κ f0 = some 63) (f_a0_X12_20 : fld ws a0 12 20 (.ref f0)) (f1 : Int32) (l_f1 : 0 ≤ f1.toInt) (h_f1 : f1.toInt ≤ 999) (f_f0_M_said_10 : elt ws f0 (10 : Int32).toInt.toNat f1) (hRT : RT κ ws a0) (sz : Nat) : Met l yX12_winters (ws_u yX12_winters cX12_winters 9 (some .int)) ({ frames := 9, cells := 0, slots := 0, locals := 210 }) (va_Pc [.ref a0, .int a1, .int a2, .int a3, .int a4] (cPre (dC, dI) tys ws sz)) (va_Qi (fun (r : Int32) (w : va_W) => Ty κ tys B w ∧ Sm [(12, 18), (12, 24), (12, 33)] [61, 62, 63, 64, 66] κ ws w ∧ (∃ (xd : Int32), 0 ≤ xd.toInt ∧ xd.toInt ≤ 999 ∧ elt w f0 (10 : Int32).toInt.toNat xd)) (fun w t => cPost (dC, dI) tys w (va_A ws sz) t) (va_A ws sz)) 0 0 (va_A ws sz) := by
  refine Met.ofW (cc := cX12_winters) (maxL := 9) (ret := (some .int)) (by decide) rfl ?_
  intro p e s m args below meth c s₁ B0 hml hv
  obtain ⟨rfl, hsz, hP, hK, hD0, hE⟩ := hv
  have hx := B0.exec
  have hb := B0.bytes
  have hr := B0.returns
  have hts0 := atoms_spec (ws := ws_u yX12_winters cX12_winters 9 (some .int)) B0.pre
  have hts : ∀ w ∈ gT, w.before _ s = true := fun w h => hts0 w (List.mem_cons_of_mem _ h)
  have hown : s.vm.findClass RX12 = some m.cls := findClass_of_methodNamed B0.named
  have hlocks := B0.notSynchronized
  subst hsz
  have hD := hD0.self (sz := s.heap.size)
  generalize hAe : va_A ws s.heap.size = A at hD ⊢
  have hA : ∀ q : Nat, s.heap.size ≤ q → A q := fun q h => by rw [← hAe]; exact Or.inr h
  have hw : tW (dC, dI) tys κ B A s ws s.heap [] := ⟨hK, hP, hD, va_S.rf, hT⟩
  have hM : Sm [(12, 18), (12, 24), (12, 33)] [61, 62, 63, 64, 66] κ ws ws := Sm.rf
  clear hP hK hD hD0 hts0
  have l_a1 := i32_lo a1
  have h_a1 := i32_hi a1
  have l_a2 := i32_lo a2
  have h_a2 := i32_hi a2
  have l_a3 := i32_lo a3
  have h_a3 := i32_hi a3
  have l_a4 := i32_lo a4
  have h_a4 := i32_hi a4
  have hl := lv_entry ([.ref a0, .int a1, .int a2, .int a3, .int a4]) (n := 9) (Nat.le_of_ble_eq_true rfl)
  rw [lg_entry_eq]
  generalize (lg_sl ([.ref a0, .int a1, .int a2, .int a3, .int a4]) ++ List.replicate (9 - (lg_sl ([.ref a0, .int a1, .int a2, .int a3, .int a4])).length) Slot.unset).toArray = ls at hl ⊢
  have hl : lv_has ls 9 [(0, .ref a0), (1, .int a1), (2, .int a2), (3, .int a3), (4, .int a4)] := hl
  refine t_start (fun QQ hQ => ?_)
  refine lv_aload_n hx hb dX12_winters_0 rfl (lv_at hl 0 rfl) ?_
  refine t_calli (va_runV (As := []) (rest := []) ⟨hx, hb, hml, hown, hts⟩ (t_X12_isChoir l dC dI tys κ B ws hw.2.2.2.2 a0 k_a0 s.heap.size) (cwV 0 hts (gUV tw_1489 tw_1491 ts_5_12 tw_13 tw_1492) rfl rfl rfl (by decide +kernel) ⟨(Nat.le_of_ble_eq_true rfl), (Nat.le_of_ble_eq_true rfl)⟩) ⟨cPre.blind, t_recv hw (ci := 12) k_a0 rfl rfl, cPre.use hw.2.1 hw.1 hw.2.2.1 hE⟩ rfl rfl hl.1 rfl (lv_room (Nat.le_of_ble_eq_true rfl)) dX12_winters_1 ⟨(Nat.le_of_ble_eq_true rfl), (Nat.le_of_ble_eq_true rfl)⟩) hw hA (fun _ _ h => h.2.2.1) (fun v1 w_1 H locs hp hw => ?_)
  obtain ⟨l_v1, h_v1, _, hm⟩ := hp
  have hM := hM.trans hm (by decide) (by decide)
  have f_a0_X12_20 := hm.1 _ _ _ _ f_a0_X12_20 (by decide)
  have f_f0_M_said_10 := hm.elt k_f0 (by decide) f_f0_M_said_10
  refine lv_if_eq (tgt := 54) hx hb dX12_winters_4 (by decide) (fun c_4 => ?_) (fun c_4 => ?_)
  · simp only [fa_lt, fa_le, fa_eq, li_0] at c_4
    refine lv_iconst (v := (-1)) hx hb dX12_winters_54 (by decide) ?_
    rw [hQ]
    refine W.widen (k := 0) (n := 0) (Nat.le_refl _) (Nat.le_refl _) ?_
    exact W.iret (v := (-1)) hx hb hr (fun t ht hW => ⟨⟨(-1), w_1, rfl, ⟨hw.2.2.2.2, hM, ⟨f1, (by omega), (by omega), f_f0_M_said_10⟩⟩, by rw [ht]; exact hw.2.1, va_K.moved hW.alike hw.1, hw.2.2.1⟩, hw.2.2.2.1.F ht⟩) hw.2.2.2.1.2.2 dX12_winters_55
  · simp only [fa_lt, fa_le, fa_eq, li_0] at c_4
    refine lv_iload_n hx hb dX12_winters_7 rfl (lv_at hl 1 rfl) ?_
    refine lv_i2l hx hb dX12_winters_8 rfl ?_
    refine lv_topl (fun v8 e_v8 => ?_)
    have t_v8 : v8.toInt = a1.toInt := by rw [e_v8, Int32.toInt_toInt64]
    refine lv_lconst (v := 1) hx hb dX12_winters_9 (by decide) ?_
    obtain ⟨v9, e_v9⟩ : ∃ y : Int64, y = 1 := ⟨_, rfl⟩
    refine W.eq (g2 := F0 m 10 ls [.long v9, .long v8]) (by rw [e_v9]) ?_
    have t_v9 : v9.toInt = 1 := by rw [e_v9]; decide
    refine lv_ldc2 (v := 10) hx hb hown (hts _ tw_1731) dX12_winters_10 ?_
    refine lv_topl (fun v10 e_v10 => ?_)
    have t_v10 : v10.toInt = 10 := by rw [e_v10]; decide
    refine t_calli (va_runS (As := [.long v8, .long v9, .long v10]) (rest := []) ⟨hx, hb, hml, hown, hts⟩ (t_X12_in l dC dI tys κ B w_1 hw.2.2.2.2 v8 v9 v10 H.size) (va_cwS 3 hts (gUS tw_1316 tw_1317 tw_13 tw_1318) rfl rfl rfl (by decide +kernel) ⟨(Nat.le_of_ble_eq_true rfl), (Nat.le_of_ble_eq_true rfl)⟩) ⟨cPre.blind, cPre.use hw.2.1 hw.1 hw.2.2.1 hE⟩ rfl rfl hl.1 rfl (lv_room (Nat.le_of_ble_eq_true rfl)) dX12_winters_13 ⟨(Nat.le_of_ble_eq_true rfl), (Nat.le_of_ble_eq_true rfl)⟩) hw hA (fun _ _ h => h.2.2.1) (fun v13 w_2 H locs hp hw => ?_)
    obtain ⟨l_v13, h_v13, _, hm, x_v13_0⟩ := hp
    have hM := hM.trans hm (by decide) (by decide)
    have f_a0_X12_20 := hm.1 _ _ _ _ f_a0_X12_20 (by decide)
    have f_f0_M_said_10 := hm.elt k_f0 (by decide) f_f0_M_said_10
    refine lv_if_eq (tgt := 54) hx hb dX12_winters_16 (by decide) (fun c_16 => ?_) (fun c_16 => ?_)
    · simp only [fa_lt, fa_le, fa_eq, li_0] at c_16
      refine lv_iconst (v := (-1)) hx hb dX12_winters_54 (by decide) ?_
      rw [hQ]
      refine W.widen (k := 0) (n := 0) (Nat.le_refl _) (Nat.le_refl _) ?_
      exact W.iret (v := (-1)) hx hb hr (fun t ht hW => ⟨⟨(-1), w_2, rfl, ⟨hw.2.2.2.2, hM, ⟨f1, (by omega), (by omega), f_f0_M_said_10⟩⟩, by rw [ht]; exact hw.2.1, va_K.moved hW.alike hw.1, hw.2.2.1⟩, hw.2.2.2.1.F ht⟩) hw.2.2.2.1.2.2 dX12_winters_55
    · simp only [fa_lt, fa_le, fa_eq, li_0] at c_16
      refine lv_iload_n hx hb dX12_winters_19 rfl (lv_at hl 2 rfl) ?_
      refine lv_i2l hx hb dX12_winters_20 rfl ?_
      refine lv_topl (fun v20 e_v20 => ?_)
      have t_v20 : v20.toInt = a2.toInt := by rw [e_v20, Int32.toInt_toInt64]
      refine lv_lconst (v := 1) hx hb dX12_winters_21 (by decide) ?_
      obtain ⟨v21, e_v21⟩ : ∃ y : Int64, y = 1 := ⟨_, rfl⟩
      refine W.eq (g2 := F0 m 22 ls [.long v21, .long v20]) (by rw [e_v21]) ?_
      have t_v21 : v21.toInt = 1 := by rw [e_v21]; decide
      refine lv_ldc2 (v := 60) hx hb hown (hts _ tw_1596) dX12_winters_22 ?_
      refine lv_topl (fun v22 e_v22 => ?_)
      have t_v22 : v22.toInt = 60 := by rw [e_v22]; decide
      refine t_calli (va_runS (As := [.long v20, .long v21, .long v22]) (rest := []) ⟨hx, hb, hml, hown, hts⟩ (t_X12_in l dC dI tys κ B w_2 hw.2.2.2.2 v20 v21 v22 H.size) (va_cwS 3 hts (gUS tw_1316 tw_1317 tw_13 tw_1318) rfl rfl rfl (by decide +kernel) ⟨(Nat.le_of_ble_eq_true rfl), (Nat.le_of_ble_eq_true rfl)⟩) ⟨cPre.blind, cPre.use hw.2.1 hw.1 hw.2.2.1 hE⟩ rfl rfl hl.1 rfl (lv_room (Nat.le_of_ble_eq_true rfl)) dX12_winters_25 ⟨(Nat.le_of_ble_eq_true rfl), (Nat.le_of_ble_eq_true rfl)⟩) hw hA (fun _ _ h => h.2.2.1) (fun v25 w_3 H locs hp hw => ?_)
      obtain ⟨l_v25, h_v25, _, hm, x_v25_0⟩ := hp
      have hM := hM.trans hm (by decide) (by decide)
      have f_a0_X12_20 := hm.1 _ _ _ _ f_a0_X12_20 (by decide)
      have f_f0_M_said_10 := hm.elt k_f0 (by decide) f_f0_M_said_10
      refine lv_if_eq (tgt := 54) hx hb dX12_winters_28 (by decide) (fun c_28 => ?_) (fun c_28 => ?_)
      · simp only [fa_lt, fa_le, fa_eq, li_0] at c_28
        refine lv_iconst (v := (-1)) hx hb dX12_winters_54 (by decide) ?_
        rw [hQ]
        refine W.widen (k := 0) (n := 0) (Nat.le_refl _) (Nat.le_refl _) ?_
        exact W.iret (v := (-1)) hx hb hr (fun t ht hW => ⟨⟨(-1), w_3, rfl, ⟨hw.2.2.2.2, hM, ⟨f1, (by omega), (by omega), f_f0_M_said_10⟩⟩, by rw [ht]; exact hw.2.1, va_K.moved hW.alike hw.1, hw.2.2.1⟩, hw.2.2.2.1.F ht⟩) hw.2.2.2.1.2.2 dX12_winters_55
      · simp only [fa_lt, fa_le, fa_eq, li_0] at c_28
        refine lv_iload_n hx hb dX12_winters_31 rfl (lv_at hl 3 rfl) ?_
        refine lv_i2l hx hb dX12_winters_32 rfl ?_
        refine lv_topl (fun v32 e_v32 => ?_)
        have t_v32 : v32.toInt = a3.toInt := by rw [e_v32, Int32.toInt_toInt64]
        refine lv_lconst (v := 0) hx hb dX12_winters_33 (by decide) ?_
        obtain ⟨v33, e_v33⟩ : ∃ y : Int64, y = 0 := ⟨_, rfl⟩
        refine W.eq (g2 := F0 m 34 ls [.long v33, .long v32]) (by rw [e_v33]) ?_
        have t_v33 : v33.toInt = 0 := by rw [e_v33]; decide
        refine lv_ldc2 (v := 100) hx hb hown (hts _ tw_1732) dX12_winters_34 ?_
        refine lv_topl (fun v34 e_v34 => ?_)
        have t_v34 : v34.toInt = 100 := by rw [e_v34]; decide
        refine t_calli (va_runS (As := [.long v32, .long v33, .long v34]) (rest := []) ⟨hx, hb, hml, hown, hts⟩ (t_X12_in l dC dI tys κ B w_3 hw.2.2.2.2 v32 v33 v34 H.size) (va_cwS 3 hts (gUS tw_1316 tw_1317 tw_13 tw_1318) rfl rfl rfl (by decide +kernel) ⟨(Nat.le_of_ble_eq_true rfl), (Nat.le_of_ble_eq_true rfl)⟩) ⟨cPre.blind, cPre.use hw.2.1 hw.1 hw.2.2.1 hE⟩ rfl rfl hl.1 rfl (lv_room (Nat.le_of_ble_eq_true rfl)) dX12_winters_37 ⟨(Nat.le_of_ble_eq_true rfl), (Nat.le_of_ble_eq_true rfl)⟩) hw hA (fun _ _ h => h.2.2.1) (fun v37 w_4 H locs hp hw => ?_)
        obtain ⟨l_v37, h_v37, _, hm, x_v37_0⟩ := hp
        have hM := hM.trans hm (by decide) (by decide)
        have f_a0_X12_20 := hm.1 _ _ _ _ f_a0_X12_20 (by decide)
        have f_f0_M_said_10 := hm.elt k_f0 (by decide) f_f0_M_said_10
        refine lv_if_eq (tgt := 54) hx hb dX12_winters_40 (by decide) (fun c_40 => ?_) (fun c_40 => ?_)
        · simp only [fa_lt, fa_le, fa_eq, li_0] at c_40
          refine lv_iconst (v := (-1)) hx hb dX12_winters_54 (by decide) ?_
          rw [hQ]
          refine W.widen (k := 0) (n := 0) (Nat.le_refl _) (Nat.le_refl _) ?_
          exact W.iret (v := (-1)) hx hb hr (fun t ht hW => ⟨⟨(-1), w_4, rfl, ⟨hw.2.2.2.2, hM, ⟨f1, (by omega), (by omega), f_f0_M_said_10⟩⟩, by rw [ht]; exact hw.2.1, va_K.moved hW.alike hw.1, hw.2.2.1⟩, hw.2.2.2.1.F ht⟩) hw.2.2.2.1.2.2 dX12_winters_55
        · simp only [fa_lt, fa_le, fa_eq, li_0] at c_40
          refine lv_iload hx hb dX12_winters_43 (lv_at hl 4 rfl) ?_
          refine lv_i2l hx hb dX12_winters_45 rfl ?_
          refine lv_topl (fun v45 e_v45 => ?_)
          have t_v45 : v45.toInt = a4.toInt := by rw [e_v45, Int32.toInt_toInt64]
          refine lv_lconst (v := 0) hx hb dX12_winters_46 (by decide) ?_
          obtain ⟨v46, e_v46⟩ : ∃ y : Int64, y = 0 := ⟨_, rfl⟩
          refine W.eq (g2 := F0 m 47 ls [.long v46, .long v45]) (by rw [e_v46]) ?_
          have t_v46 : v46.toInt = 0 := by rw [e_v46]; decide
          refine lv_lconst (v := 1) hx hb dX12_winters_47 (by decide) ?_
          obtain ⟨v47, e_v47⟩ : ∃ y : Int64, y = 1 := ⟨_, rfl⟩
          refine W.eq (g2 := F0 m 48 ls [.long v47, .long v46, .long v45]) (by rw [e_v47]) ?_
          have t_v47 : v47.toInt = 1 := by rw [e_v47]; decide
          refine t_calli (va_runS (As := [.long v45, .long v46, .long v47]) (rest := []) ⟨hx, hb, hml, hown, hts⟩ (t_X12_in l dC dI tys κ B w_4 hw.2.2.2.2 v45 v46 v47 H.size) (va_cwS 3 hts (gUS tw_1316 tw_1317 tw_13 tw_1318) rfl rfl rfl (by decide +kernel) ⟨(Nat.le_of_ble_eq_true rfl), (Nat.le_of_ble_eq_true rfl)⟩) ⟨cPre.blind, cPre.use hw.2.1 hw.1 hw.2.2.1 hE⟩ rfl rfl hl.1 rfl (lv_room (Nat.le_of_ble_eq_true rfl)) dX12_winters_48 ⟨(Nat.le_of_ble_eq_true rfl), (Nat.le_of_ble_eq_true rfl)⟩) hw hA (fun _ _ h => h.2.2.1) (fun v48 w_5 H locs hp hw => ?_)
          obtain ⟨l_v48, h_v48, _, hm, x_v48_0⟩ := hp
          have hM := hM.trans hm (by decide) (by decide)
          have f_a0_X12_20 := hm.1 _ _ _ _ f_a0_X12_20 (by decide)
          have f_f0_M_said_10 := hm.elt k_f0 (by decide) f_f0_M_said_10
          refine lv_if_ne (tgt := 56) hx hb dX12_winters_51 (by decide) (fun c_51 => ?_) (fun c_51 => ?_)
          · simp only [fa_lt, fa_le, fa_eq, li_0] at c_51
            refine lv_aload_n hx hb dX12_winters_56 rfl (lv_at hl 0 rfl) ?_
            refine lv_aload_n hx hb dX12_winters_57 rfl (lv_at hl 0 rfl) ?_
            refine t_geti (ci := 12) (C := RX12) (T := TX12) (N := 38) hx hb hts iX12 hown hw k_a0 rfl rfl rfl 22 (by decide) (hts _ tw_1147) (fun _ h9 => h9) dX12_winters_58 rfl (fun v58 l_v58 h_v58 f_a0_X12_22 => ?_)
            have l_v58 : (-2147483648) ≤ v58.toInt := l_v58
            have h_v58 : v58.toInt ≤ 2147483647 := h_v58
            refine lv_i2l hx hb dX12_winters_61 rfl ?_
            refine lv_topl (fun v61 e_v61 => ?_)
            have t_v61 : v61.toInt = v58.toInt := by rw [e_v61, Int32.toInt_toInt64]
            refine t_put (ci := 12) (C := RX12) (T := TX12) (N := 38) (v := .long v61) hx hb hts iX12 tyX12 tyX12_ok nmX12 hown hw k_a0 rfl rfl rfl 33 (by decide) (hts _ tw_1158) (fun _ h9 => h9) rfl (tyX12_ok 33 (by decide)) rfl rfl (okV.long rfl) dX12_winters_62 (fun w_6 H locs hw u => ?_)
            have hM := hM.up1 u (by decide)
            have f_a0_X12_20 := u.1 _ _ _ _ f_a0_X12_20 (Or.inr (Or.inr (by decide)))
            have f_f0_M_said_10 := u.elt f_f0_M_said_10
            have f_a0_X12_22 := u.1 _ _ _ _ f_a0_X12_22 (Or.inr (Or.inr (by decide)))
            have f_a0_X12_33 := u.2.2
            refine lv_aload_n hx hb dX12_winters_65 rfl (lv_at hl 0 rfl) ?_
            refine lv_iconst (v := 0) hx hb dX12_winters_66 (by decide) ?_
            refine t_put (ci := 12) (C := RX12) (T := TX12) (N := 38) (v := .int 0) hx hb hts iX12 tyX12 tyX12_ok nmX12 hown hw k_a0 rfl rfl rfl 24 (by decide) (hts _ tw_1149) (fun _ h9 => h9) rfl (tyX12_ok 24 (by decide)) rfl rfl (okV.int rfl (by decide) (by decide)) dX12_winters_67 (fun w_7 H locs hw u => ?_)
            have hM := hM.up1 u (by decide)
            have f_a0_X12_20 := u.1 _ _ _ _ f_a0_X12_20 (Or.inr (Or.inr (by decide)))
            have f_f0_M_said_10 := u.elt f_f0_M_said_10
            have f_a0_X12_22 := u.1 _ _ _ _ f_a0_X12_22 (Or.inr (Or.inr (by decide)))
            have f_a0_X12_33 := u.1 _ _ _ _ f_a0_X12_33 (Or.inr (Or.inr (by decide)))
            have f_a0_X12_24 := u.2.2
            refine lv_iconst (v := 0) hx hb dX12_winters_70 (by decide) ?_
            refine lv_istore (lv' := [(5, .int 0), (0, .ref a0), (1, .int a1), (2, .int a2), (3, .int a3), (4, .int a4)]) hx hb dX12_winters_71 hl (by decide) rfl (fun ls hl => ?_)
            refine lv_aload_n hx hb dX12_winters_73 rfl (lv_at hl 1 rfl) ?_
            refine t_callv (va_runV (As := []) (rest := []) ⟨hx, hb, hml, hown, hts⟩ (t_X12_keeps l dC dI tys κ B w_7 hw.2.2.2.2 a0 k_a0 f0 k_f0 f_a0_X12_20 f1 (by omega) (by omega) f_f0_M_said_10 H.size) (cwV 0 hts (gUV tw_1598 tw_1600 ts_7_0 tw_13 tw_1601) rfl rfl rfl (by decide +kernel) ⟨(Nat.le_of_ble_eq_true rfl), (Nat.le_of_ble_eq_true rfl)⟩) ⟨cPre.blind, t_recv hw (ci := 12) k_a0 rfl rfl, cPre.use hw.2.1 hw.1 hw.2.2.1 hE⟩ rfl rfl hl.1 rfl (lv_room (Nat.le_of_ble_eq_true rfl)) dX12_winters_74 ⟨(Nat.le_of_ble_eq_true rfl), (Nat.le_of_ble_eq_true rfl)⟩) hw hA (fun _ h => h.1) (fun w_8 H locs hp hw => ?_)
            obtain ⟨_, hm⟩ := hp
            have hM := hM.trans hm (by decide) (by decide)
            have f_a0_X12_20 := hm.1 _ _ _ _ f_a0_X12_20 (by decide)
            have f_f0_M_said_10 := hm.elt k_f0 (by decide) f_f0_M_said_10
            have f_a0_X12_22 := hm.1 _ _ _ _ f_a0_X12_22 (by decide)
            have f_a0_X12_33 := hm.1 _ _ _ _ f_a0_X12_33 (by decide)
            have f_a0_X12_24 := hm.1 _ _ _ _ f_a0_X12_24 (by decide)
            refine lv_iconst (v := 0) hx hb dX12_winters_77 (by decide) ?_
            refine lv_istore (lv' := [(6, .int 0), (5, .int 0), (0, .ref a0), (1, .int a1), (2, .int a2), (3, .int a3), (4, .int a4)]) hx hb dX12_winters_78 hl (by decide) rfl (fun ls hl => ?_)
            have J80 : ∀ (n : Nat) (H : Heap) (locs : List Loc) (ls : Array Slot), (∃ (w80 : va_W) (p80_l5 : Int32) (p80_l6 : Int32) (p80_m_f0_M_said_10 : Int32), tW (dC, dI) tys κ B A s w80 H locs ∧ Sm [(12, 18), (12, 24), (12, 33)] [61, 62, 63, 64, 66] κ ws w80 ∧ (-2147483648) ≤ p80_l5.toInt ∧ p80_l5.toInt ≤ 2147483647 ∧ 0 ≤ p80_l6.toInt ∧ p80_l6.toInt ≤ 11 ∧ 0 ≤ p80_m_f0_M_said_10.toInt ∧ p80_m_f0_M_said_10.toInt ≤ 999 ∧ fld w80 a0 12 20 (.ref f0) ∧ fld w80 a0 12 22 (.int v58) ∧ elt w80 f0 (10 : Int32).toInt.toNat p80_m_f0_M_said_10 ∧ lv_has ls 9 [(0, .ref a0), (1, .int a1), (2, .int a2), (3, .int a3), (4, .int a4), (5, .int p80_l5), (6, .int p80_l6)] ∧ (11 - p80_l6.toInt).toNat = n) → W p l e (headSpec (ws_u yX12_winters cX12_winters 9 (some .int)) ({ frames := 9, cells := 0, slots := 0, locals := 210 })).room s m ([.ref a0, .int a1, .int a2, .int a3, .int a4] : List Value).toArray below meth c H locs 0 0 QQ (F0 m 80 ls []) := by
              refine loopT _ ?_
              intro n_80 H locs ls hI ih_80
              obtain ⟨w80, p80_l5, p80_l6, p80_m_f0_M_said_10, hw, hM, l_p80_l5, h_p80_l5, l_p80_l6, h_p80_l6, l_p80_m_f0_M_said_10, h_p80_m_f0_M_said_10, f_a0_X12_20, f_a0_X12_22, f_f0_M_said_10, hl, hn_80⟩ := hI
              refine lv_iload hx hb dX12_winters_80 (lv_at hl 6 rfl) ?_
              refine lv_iload_n hx hb dX12_winters_82 rfl (lv_at hl 1 rfl) ?_
              refine lv_icmp_ge (tgt := 176) hx hb dX12_winters_83 (by decide) (fun c_83 => ?_) (fun c_83 => ?_)
              · simp only [fa_lt, fa_le, fa_eq] at c_83
                refine lv_iload hx hb dX12_winters_176 (lv_at hl 4 rfl) ?_
                refine lv_if_ne (tgt := 188) hx hb dX12_winters_178 (by decide) (fun c_178 => ?_) (fun c_178 => ?_)
                · simp only [fa_lt, fa_le, fa_eq, li_0] at c_178
                  refine lv_iload hx hb dX12_winters_188 (lv_at hl 5 rfl) ?_
                  rw [hQ]
                  refine W.widen (k := 0) (n := 0) (Nat.le_refl _) (Nat.le_refl _) ?_
                  exact W.iret (v := p80_l5) hx hb hr (fun t ht hW => ⟨⟨p80_l5, w80, rfl, ⟨hw.2.2.2.2, hM, ⟨p80_m_f0_M_said_10, (by omega), (by omega), f_f0_M_said_10⟩⟩, by rw [ht]; exact hw.2.1, va_K.moved hW.alike hw.1, hw.2.2.1⟩, hw.2.2.2.1.F ht⟩) hw.2.2.2.1.2.2 dX12_winters_190
                · simp only [fa_lt, fa_le, fa_eq, li_0] at c_178
                  refine lv_aload_n hx hb dX12_winters_181 rfl (lv_at hl 0 rfl) ?_
                  refine t_geti (ci := 12) (C := RX12) (T := TX12) (N := 38) hx hb hts iX12 hown hw k_a0 rfl rfl rfl 24 (by decide) (hts _ tw_1149) (fun _ h9 => h9) dX12_winters_182 rfl (fun v182 l_v182 h_v182 f_a0_X12_24 => ?_)
                  have l_v182 : (-2147483648) ≤ v182.toInt := l_v182
                  have h_v182 : v182.toInt ≤ 2147483647 := h_v182
                  refine lv_goto (tgt := 190) hx hb dX12_winters_185 (by decide) ?_
                  rw [hQ]
                  refine W.widen (k := 0) (n := 0) (Nat.le_refl _) (Nat.le_refl _) ?_
                  exact W.iret (v := v182) hx hb hr (fun t ht hW => ⟨⟨v182, w80, rfl, ⟨hw.2.2.2.2, hM, ⟨p80_m_f0_M_said_10, (by omega), (by omega), f_f0_M_said_10⟩⟩, by rw [ht]; exact hw.2.1, va_K.moved hW.alike hw.1, hw.2.2.1⟩, hw.2.2.2.1.F ht⟩) hw.2.2.2.1.2.2 dX12_winters_190
              · simp only [fa_lt, fa_le, fa_eq] at c_83
                refine lv_iconst (v := 0) hx hb dX12_winters_86 (by decide) ?_
                refine lv_istore (lv' := [(7, .int 0), (0, .ref a0), (1, .int a1), (2, .int a2), (3, .int a3), (4, .int a4), (5, .int p80_l5), (6, .int p80_l6)]) hx hb dX12_winters_87 hl (by decide) rfl (fun ls hl => ?_)
                have J89 : ∀ (n : Nat) (H : Heap) (locs : List Loc) (ls : Array Slot), (∃ (w89 : va_W) (p89_l7 : Int32) (p89_m_f0_M_said_10 : Int32), tW (dC, dI) tys κ B A s w89 H locs ∧ Sm [(12, 18), (12, 24), (12, 33)] [61, 62, 63, 64, 66] κ ws w89 ∧ 0 ≤ p89_l7.toInt ∧ p89_l7.toInt ≤ 61 ∧ 0 ≤ p89_m_f0_M_said_10.toInt ∧ p89_m_f0_M_said_10.toInt ≤ 1999 ∧ fld w89 a0 12 20 (.ref f0) ∧ fld w89 a0 12 22 (.int v58) ∧ elt w89 f0 (10 : Int32).toInt.toNat p89_m_f0_M_said_10 ∧ p89_m_f0_M_said_10.toInt ≤ 999 + p89_l7.toInt ∧ lv_has ls 9 [(0, .ref a0), (1, .int a1), (2, .int a2), (3, .int a3), (4, .int a4), (5, .int p80_l5), (6, .int p80_l6), (7, .int p89_l7)] ∧ (61 - p89_l7.toInt).toNat = n) → W p l e (headSpec (ws_u yX12_winters cX12_winters 9 (some .int)) ({ frames := 9, cells := 0, slots := 0, locals := 210 })).room s m ([.ref a0, .int a1, .int a2, .int a3, .int a4] : List Value).toArray below meth c H locs 0 0 QQ (F0 m 89 ls []) := by
                  refine loopT _ ?_
                  intro n_89 H locs ls hI ih_89
                  obtain ⟨w89, p89_l7, p89_m_f0_M_said_10, hw, hM, l_p89_l7, h_p89_l7, l_p89_m_f0_M_said_10, h_p89_m_f0_M_said_10, f_a0_X12_20, f_a0_X12_22, f_f0_M_said_10, li_89_0, hl, hn_89⟩ := hI
                  refine lv_iload hx hb dX12_winters_89 (lv_at hl 7 rfl) ?_
                  refine lv_iload_n hx hb dX12_winters_91 rfl (lv_at hl 2 rfl) ?_
                  refine lv_icmp_ge (tgt := 150) hx hb dX12_winters_92 (by decide) (fun c_92 => ?_) (fun c_92 => ?_)
                  · simp only [fa_lt, fa_le, fa_eq] at c_92
                    refine lv_iload hx hb dX12_winters_150 (lv_at hl 5 rfl) ?_
                    refine lv_aload_n hx hb dX12_winters_152 rfl (lv_at hl 0 rfl) ?_
                    refine t_getk (ci := 12) (C := RX12) (T := TX12) (N := 38) hx hb hts iX12 hown hw rfl 20 (by decide) (hts _ tw_1145) (fun _ h9 => h9) dX12_winters_153 f_a0_X12_20 ?_
                    refine lv_iconst (v := 3) hx hb dX12_winters_156 (by decide) ?_
                    refine t_iald hx hb hw k_f0 rfl rfl (by decide) (by decide) dX12_winters_157 (fun v157 r_v157 s_v157 f_f0_M_said_3 => ?_)
                    have l_v157 : 0 ≤ v157.toInt := by rw [iv_63_3] at r_v157; exact r_v157
                    have h_v157 : v157.toInt ≤ 6 := by rw [iv_63_3] at s_v157; exact s_v157
                    refine lv_aload_n hx hb dX12_winters_158 rfl (lv_at hl 0 rfl) ?_
                    refine t_calli (va_runV (As := []) (rest := [.int v157, .int p80_l5]) ⟨hx, hb, hml, hown, hts⟩ (t_X12_soundMany l dC dI tys κ B w89 hw.2.2.2.2 a0 k_a0 H.size) (cwV 0 hts (gUV tw_1525 tw_1527 ts_6_5 tw_13 tw_1528) rfl rfl rfl (by decide +kernel) ⟨(Nat.le_of_ble_eq_true rfl), (Nat.le_of_ble_eq_true rfl)⟩) ⟨cPre.blind, t_recv hw (ci := 12) k_a0 rfl rfl, cPre.use hw.2.1 hw.1 hw.2.2.1 hE⟩ rfl rfl hl.1 rfl (lv_room (Nat.le_of_ble_eq_true rfl)) dX12_winters_159 ⟨(Nat.le_of_ble_eq_true rfl), (Nat.le_of_ble_eq_true rfl)⟩) hw hA (fun _ _ h => h.1) (fun v159 w_9 H locs hp hw => ?_)
                    obtain ⟨_, hm⟩ := hp
                    have l_v159 := i32_lo v159
                    have h_v159 := i32_hi v159
                    have hM := hM.trans hm (by decide) (by decide)
                    have f_a0_X12_20 := hm.1 _ _ _ _ f_a0_X12_20 (by decide)
                    have f_a0_X12_22 := hm.1 _ _ _ _ f_a0_X12_22 (by decide)
                    have f_f0_M_said_10 := hm.elt k_f0 (by decide) f_f0_M_said_10
                    have f_f0_M_said_3 := hm.elt k_f0 (by decide) f_f0_M_said_3
                    refine lv_isub hx hb dX12_winters_162 ?_
                    refine lv_topi (fun v162 e_v162 => ?_)
                    have l_v162 := i32_lo v162
                    have h_v162 := i32_hi v162
                    refine lv_iadd hx hb dX12_winters_163 ?_
                    refine lv_topi (fun v163 e_v163 => ?_)
                    have l_v163 := i32_lo v163
                    have h_v163 := i32_hi v163
                    refine lv_istore (lv' := [(5, .int v163), (0, .ref a0), (1, .int a1), (2, .int a2), (3, .int a3), (4, .int a4), (6, .int p80_l6), (7, .int p89_l7)]) hx hb dX12_winters_164 hl (by decide) rfl (fun ls hl => ?_)
                    refine lv_aload_n hx hb dX12_winters_166 rfl (lv_at hl 1 rfl) ?_
                    refine t_callv (va_runV (As := []) (rest := []) ⟨hx, hb, hml, hown, hts⟩ (t_X12_laysBack l dC dI tys κ B w_9 hw.2.2.2.2 a0 k_a0 f0 k_f0 f_a0_X12_20 H.size) (cwV 0 hts (gUV tw_1602 tw_1604 ts_7_1 tw_13 tw_1605) rfl rfl rfl (by decide +kernel) ⟨(Nat.le_of_ble_eq_true rfl), (Nat.le_of_ble_eq_true rfl)⟩) ⟨cPre.blind, t_recv hw (ci := 12) k_a0 rfl rfl, cPre.use hw.2.1 hw.1 hw.2.2.1 hE⟩ rfl rfl hl.1 rfl (lv_room (Nat.le_of_ble_eq_true rfl)) dX12_winters_167 ⟨(Nat.le_of_ble_eq_true rfl), (Nat.le_of_ble_eq_true rfl)⟩) hw hA (fun _ h => h.1) (fun w_10 H locs hp hw => ?_)
                    obtain ⟨_, hm, ⟨v167d, l_v167d, h_v167d, f_f0_M_said_10⟩⟩ := hp
                    have hM := hM.trans hm (by decide) (by decide)
                    have f_a0_X12_20 := hm.1 _ _ _ _ f_a0_X12_20 (by decide)
                    have f_a0_X12_22 := hm.1 _ _ _ _ f_a0_X12_22 (by decide)
                    obtain ⟨v170, e_v170⟩ : ∃ y : Int32, y = p80_l6 + 1 := ⟨_, rfl⟩
                    refine lv_iinc (v := v170) (lv' := [(6, .int v170), (5, .int v163), (0, .ref a0), (1, .int a1), (2, .int a2), (3, .int a3), (4, .int a4), (7, .int p89_l7)]) hx hb dX12_winters_170 hl (k := 6) rfl e_v170.symm (by decide) rfl (fun ls hl => ?_)
                    have e_v170 : v170.toInt = p80_l6.toInt + 1 := ad_i e_v170 rfl li_1 (by omega) (by omega)
                    refine lv_goto (tgt := 80) hx hb dX12_winters_173 (by decide) ?_
                    exact ih_80 _ _ _ _ (by omega) ⟨w_10, v163, v170, v167d, hw, hM, (by omega), (by omega), (by omega), (by omega), (by omega), (by omega), f_a0_X12_20, f_a0_X12_22, f_f0_M_said_10, (lv_sub hl [2, 3, 4, 5, 6, 1, 0] rfl), rfl⟩
                  · simp only [fa_lt, fa_le, fa_eq] at c_92
                    refine lv_iconst (v := 0) hx hb dX12_winters_95 (by decide) ?_
                    refine lv_istore (lv' := [(8, .int 0), (0, .ref a0), (1, .int a1), (2, .int a2), (3, .int a3), (4, .int a4), (5, .int p80_l5), (6, .int p80_l6), (7, .int p89_l7)]) hx hb dX12_winters_96 hl (by decide) rfl (fun ls hl => ?_)
                    have J98 : ∀ (n : Nat) (H : Heap) (locs : List Loc) (ls : Array Slot), (∃ (w98 : va_W) (p98_l8 : Int32), tW (dC, dI) tys κ B A s w98 H locs ∧ Sm [(12, 18), (12, 24), (12, 33)] [61, 62, 63, 64, 66] κ ws w98 ∧ 0 ≤ p98_l8.toInt ∧ p98_l8.toInt ≤ 6 ∧ fld w98 a0 12 20 (.ref f0) ∧ fld w98 a0 12 22 (.int v58) ∧ elt w98 f0 (10 : Int32).toInt.toNat p89_m_f0_M_said_10 ∧ lv_has ls 9 [(0, .ref a0), (1, .int a1), (2, .int a2), (3, .int a3), (4, .int a4), (5, .int p80_l5), (6, .int p80_l6), (7, .int p89_l7), (8, .int p98_l8)] ∧ (6 - p98_l8.toInt).toNat = n) → W p l e (headSpec (ws_u yX12_winters cX12_winters 9 (some .int)) ({ frames := 9, cells := 0, slots := 0, locals := 210 })).room s m ([.ref a0, .int a1, .int a2, .int a3, .int a4] : List Value).toArray below meth c H locs 0 0 QQ (F0 m 98 ls []) := by
                      refine loopT _ ?_
                      intro n_98 H locs ls hI ih_98
                      obtain ⟨w98, p98_l8, hw, hM, l_p98_l8, h_p98_l8, f_a0_X12_20, f_a0_X12_22, f_f0_M_said_10, hl, hn_98⟩ := hI
                      refine lv_iload hx hb dX12_winters_98 (lv_at hl 8 rfl) ?_
                      refine lv_aload_n hx hb dX12_winters_100 rfl (lv_at hl 0 rfl) ?_
                      refine t_getk (ci := 12) (C := RX12) (T := TX12) (N := 38) hx hb hts iX12 hown hw rfl 20 (by decide) (hts _ tw_1145) (fun _ h9 => h9) dX12_winters_101 f_a0_X12_20 ?_
                      refine lv_iconst (v := 3) hx hb dX12_winters_104 (by decide) ?_
                      refine t_iald hx hb hw k_f0 rfl rfl (by decide) (by decide) dX12_winters_105 (fun v105 r_v105 s_v105 f_f0_M_said_3 => ?_)
                      have l_v105 : 0 ≤ v105.toInt := by rw [iv_63_3] at r_v105; exact r_v105
                      have h_v105 : v105.toInt ≤ 6 := by rw [iv_63_3] at s_v105; exact s_v105
                      refine lv_icmp_ge (tgt := 140) hx hb dX12_winters_106 (by decide) (fun c_106 => ?_) (fun c_106 => ?_)
                      · simp only [fa_lt, fa_le, fa_eq] at c_106
                        refine lv_aload_n hx hb dX12_winters_140 rfl (lv_at hl 0 rfl) ?_
                        refine t_callv (va_runV (As := []) (rest := []) ⟨hx, hb, hml, hown, hts⟩ (t_X12_passes l dC dI tys κ B w98 hw.2.2.2.2 a0 k_a0 f0 k_f0 f_a0_X12_20 p89_m_f0_M_said_10 (by omega) (by omega) f_f0_M_said_10 (hRT.sm hM (by decide) (by decide)) H.size) (cwV 0 hts (gUV tw_1497 tw_1499 ts_5_14 tw_13 tw_1500) rfl rfl rfl (by decide +kernel) ⟨(Nat.le_of_ble_eq_true rfl), (Nat.le_of_ble_eq_true rfl)⟩) ⟨cPre.blind, t_recv hw (ci := 12) k_a0 rfl rfl, cPre.use hw.2.1 hw.1 hw.2.2.1 hE⟩ rfl rfl hl.1 rfl (lv_room (Nat.le_of_ble_eq_true rfl)) dX12_winters_141 ⟨(Nat.le_of_ble_eq_true rfl), (Nat.le_of_ble_eq_true rfl)⟩) hw hA (fun _ h => h.1) (fun w_11 H locs hp hw => ?_)
                        obtain ⟨_, hm, ⟨v141d, l_v141d, h_v141d, f_f0_M_said_10, y_v141⟩⟩ := hp
                        have hM := hM.trans hm (by decide) (by decide)
                        have f_a0_X12_20 := hm.1 _ _ _ _ f_a0_X12_20 (by decide)
                        have f_a0_X12_22 := hm.1 _ _ _ _ f_a0_X12_22 (by decide)
                        obtain ⟨v144, e_v144⟩ : ∃ y : Int32, y = p89_l7 + 1 := ⟨_, rfl⟩
                        refine lv_iinc (v := v144) (lv' := [(7, .int v144), (0, .ref a0), (1, .int a1), (2, .int a2), (3, .int a3), (4, .int a4), (5, .int p80_l5), (6, .int p80_l6), (8, .int p98_l8)]) hx hb dX12_winters_144 hl (k := 7) rfl e_v144.symm (by decide) rfl (fun ls hl => ?_)
                        have e_v144 : v144.toInt = p89_l7.toInt + 1 := ad_i e_v144 rfl li_1 (by omega) (by omega)
                        refine lv_goto (tgt := 89) hx hb dX12_winters_147 (by decide) ?_
                        exact ih_89 _ _ _ _ (by omega) ⟨w_11, v144, v141d, hw, hM, (by omega), (by omega), (by omega), (by omega), f_a0_X12_20, f_a0_X12_22, f_f0_M_said_10, (by omega), (lv_sub hl [1, 2, 3, 4, 5, 6, 7, 0] rfl), rfl⟩
                      · simp only [fa_lt, fa_le, fa_eq] at c_106
                        refine lv_aload_n hx hb dX12_winters_109 rfl (lv_at hl 0 rfl) ?_
                        refine lv_iload hx hb dX12_winters_110 (lv_at hl 8 rfl) ?_
                        refine t_calli (va_runV (As := [.int p98_l8]) (rest := []) ⟨hx, hb, hml, hown, hts⟩ (t_X12_isSound l dC dI tys κ B w98 hw.2.2.2.2 a0 k_a0 p98_l8 H.size) (cwV 1 hts (gUV tw_1517 tw_1519 ts_6_3 tw_13 tw_1520) rfl rfl rfl (by decide +kernel) ⟨(Nat.le_of_ble_eq_true rfl), (Nat.le_of_ble_eq_true rfl)⟩) ⟨cPre.blind, t_recv hw (ci := 12) k_a0 rfl rfl, cPre.use hw.2.1 hw.1 hw.2.2.1 hE⟩ rfl rfl hl.1 rfl (lv_room (Nat.le_of_ble_eq_true rfl)) dX12_winters_112 ⟨(Nat.le_of_ble_eq_true rfl), (Nat.le_of_ble_eq_true rfl)⟩) hw hA (fun _ _ h => h.2.2.1) (fun v112 w_12 H locs hp hw => ?_)
                        obtain ⟨l_v112, h_v112, _, hm, x_v112_0⟩ := hp
                        have hM := hM.trans hm (by decide) (by decide)
                        have f_a0_X12_20 := hm.1 _ _ _ _ f_a0_X12_20 (by decide)
                        have f_a0_X12_22 := hm.1 _ _ _ _ f_a0_X12_22 (by decide)
                        have f_f0_M_said_10 := hm.elt k_f0 (by decide) f_f0_M_said_10
                        have f_f0_M_said_3 := hm.elt k_f0 (by decide) f_f0_M_said_3
                        have J134 : ∀ (H : Heap) (locs : List Loc) (ls : Array Slot) (w134 : va_W), tW (dC, dI) tys κ B A s w134 H locs → Sm [(12, 18), (12, 24), (12, 33)] [61, 62, 63, 64, 66] κ ws w134 → fld w134 a0 12 20 (.ref f0) → fld w134 a0 12 22 (.int v58) → elt w134 f0 (10 : Int32).toInt.toNat p89_m_f0_M_said_10 → lv_has ls 9 [(0, .ref a0), (1, .int a1), (2, .int a2), (3, .int a3), (4, .int a4), (5, .int p80_l5), (6, .int p80_l6), (7, .int p89_l7), (8, .int p98_l8)] → W p l e (headSpec (ws_u yX12_winters cX12_winters 9 (some .int)) ({ frames := 9, cells := 0, slots := 0, locals := 210 })).room s m ([.ref a0, .int a1, .int a2, .int a3, .int a4] : List Value).toArray below meth c H locs 0 0 QQ (F0 m 134 ls []) := by
                          intro H locs ls w134 hw hM f_a0_X12_20 f_a0_X12_22 f_f0_M_said_10 hl
                          obtain ⟨v134, e_v134⟩ : ∃ y : Int32, y = p98_l8 + 1 := ⟨_, rfl⟩
                          refine lv_iinc (v := v134) (lv' := [(8, .int v134), (0, .ref a0), (1, .int a1), (2, .int a2), (3, .int a3), (4, .int a4), (5, .int p80_l5), (6, .int p80_l6), (7, .int p89_l7)]) hx hb dX12_winters_134 hl (k := 8) rfl e_v134.symm (by decide) rfl (fun ls hl => ?_)
                          have e_v134 : v134.toInt = p98_l8.toInt + 1 := ad_i e_v134 rfl li_1 (by omega) (by omega)
                          refine lv_goto (tgt := 98) hx hb dX12_winters_137 (by decide) ?_
                          exact ih_98 _ _ _ _ (by omega) ⟨w134, v134, hw, hM, (by omega), (by omega), f_a0_X12_20, f_a0_X12_22, f_f0_M_said_10, (lv_sub hl [1, 2, 3, 4, 5, 6, 7, 8, 0] rfl), rfl⟩
                        refine lv_if_eq (tgt := 134) hx hb dX12_winters_115 (by decide) (fun c_115 => ?_) (fun c_115 => ?_)
                        · simp only [fa_lt, fa_le, fa_eq, li_0] at c_115
                          exact J134 _ _ _ w_12 hw hM f_a0_X12_20 f_a0_X12_22 f_f0_M_said_10 (lv_sub hl [0, 1, 2, 3, 4, 5, 6, 7, 8] rfl)
                        · simp only [fa_lt, fa_le, fa_eq, li_0] at c_115
                          refine lv_aload_n hx hb dX12_winters_118 rfl (lv_at hl 0 rfl) ?_
                          refine lv_bipush (v := 100) hx hb dX12_winters_119 (by decide) ?_
                          refine t_calli (va_runV (As := [.int 100]) (rest := []) ⟨hx, hb, hml, hown, hts⟩ (t_X12_draw l dC dI tys κ B w_12 hw.2.2.2.2 a0 k_a0 100 (by decide) (by decide) H.size) (cwV 1 hts (gUV tw_1733 tw_1735 ts_8_1 tw_13 tw_1736) rfl rfl rfl (by decide +kernel) ⟨(Nat.le_of_ble_eq_true rfl), (Nat.le_of_ble_eq_true rfl)⟩) ⟨cPre.blind, t_recv hw (ci := 12) k_a0 rfl rfl, cPre.use hw.2.1 hw.1 hw.2.2.1 hE⟩ rfl rfl hl.1 rfl (lv_room (Nat.le_of_ble_eq_true rfl)) dX12_winters_121 ⟨(Nat.le_of_ble_eq_true rfl), (Nat.le_of_ble_eq_true rfl)⟩) hw hA (fun _ _ h => h.1) (fun v121 w_13 H locs hp hw => ?_)
                          obtain ⟨_, hm⟩ := hp
                          have l_v121 := i32_lo v121
                          have h_v121 := i32_hi v121
                          have hM := hM.trans hm (by decide) (by decide)
                          have f_a0_X12_20 := hm.1 _ _ _ _ f_a0_X12_20 (by decide)
                          have f_a0_X12_22 := hm.1 _ _ _ _ f_a0_X12_22 (by decide)
                          have f_f0_M_said_10 := hm.elt k_f0 (by decide) f_f0_M_said_10
                          have f_f0_M_said_3 := hm.elt k_f0 (by decide) f_f0_M_said_3
                          refine lv_iload_n hx hb dX12_winters_124 rfl (lv_at hl 3 rfl) ?_
                          refine lv_icmp_ge (tgt := 134) hx hb dX12_winters_125 (by decide) (fun c_125 => ?_) (fun c_125 => ?_)
                          · simp only [fa_lt, fa_le, fa_eq] at c_125
                            exact J134 _ _ _ w_13 hw hM f_a0_X12_20 f_a0_X12_22 f_f0_M_said_10 (lv_sub hl [0, 1, 2, 3, 4, 5, 6, 7, 8] rfl)
                          · simp only [fa_lt, fa_le, fa_eq] at c_125
                            refine lv_aload_n hx hb dX12_winters_128 rfl (lv_at hl 0 rfl) ?_
                            refine lv_iload hx hb dX12_winters_129 (lv_at hl 8 rfl) ?_
                            refine t_callv (va_runV (As := [.int p98_l8]) (rest := []) ⟨hx, hb, hml, hown, hts⟩ (t_X12_breaksVoice l dC dI tys κ B w_13 hw.2.2.2.2 a0 k_a0 p98_l8 (by omega) (by omega) f0 k_f0 f_a0_X12_20 p89_m_f0_M_said_10 (by omega) (by omega) f_f0_M_said_10 H.size) (cwV 1 hts (gUV tw_1563 tw_1565 ts_6_13 tw_13 tw_1566) rfl rfl rfl (by decide +kernel) ⟨(Nat.le_of_ble_eq_true rfl), (Nat.le_of_ble_eq_true rfl)⟩) ⟨cPre.blind, t_recv hw (ci := 12) k_a0 rfl rfl, cPre.use hw.2.1 hw.1 hw.2.2.1 hE⟩ rfl rfl hl.1 rfl (lv_room (Nat.le_of_ble_eq_true rfl)) dX12_winters_131 ⟨(Nat.le_of_ble_eq_true rfl), (Nat.le_of_ble_eq_true rfl)⟩) hw hA (fun _ h => h.1) (fun w_14 H locs hp hw => ?_)
                            obtain ⟨_, hm, f_f0_M_said_10⟩ := hp
                            have hM := hM.trans hm (by decide) (by decide)
                            have f_a0_X12_20 := hm.1 _ _ _ _ f_a0_X12_20 (by decide)
                            have f_a0_X12_22 := hm.1 _ _ _ _ f_a0_X12_22 (by decide)
                            exact J134 _ _ _ w_14 hw hM f_a0_X12_20 f_a0_X12_22 f_f0_M_said_10 (lv_sub hl [0, 1, 2, 3, 4, 5, 6, 7, 8] rfl)
                    exact J98 _ _ _ _ ⟨w89, 0, hw, hM, (by decide), (by decide), f_a0_X12_20, f_a0_X12_22, f_f0_M_said_10, (lv_sub hl [1, 2, 3, 4, 5, 6, 7, 8, 0] rfl), rfl⟩
                exact J89 _ _ _ _ ⟨w80, 0, p80_m_f0_M_said_10, hw, hM, (by decide), (by decide), (by omega), (by omega), f_a0_X12_20, f_a0_X12_22, f_f0_M_said_10, (by have := li_0; omega), (lv_sub hl [1, 2, 3, 4, 5, 6, 7, 0] rfl), rfl⟩
            exact J80 _ _ _ _ ⟨w_8, 0, 0, f1, hw, hM, (by decide), (by decide), (by decide), (by decide), (by omega), (by omega), f_a0_X12_20, f_a0_X12_22, f_f0_M_said_10, (lv_sub hl [2, 3, 4, 5, 6, 1, 0] rfl), rfl⟩
          · simp only [fa_lt, fa_le, fa_eq, li_0] at c_51
            refine lv_iconst (v := (-1)) hx hb dX12_winters_54 (by decide) ?_
            rw [hQ]
            refine W.widen (k := 0) (n := 0) (Nat.le_refl _) (Nat.le_refl _) ?_
            exact W.iret (v := (-1)) hx hb hr (fun t ht hW => ⟨⟨(-1), w_5, rfl, ⟨hw.2.2.2.2, hM, ⟨f1, (by omega), (by omega), f_f0_M_said_10⟩⟩, by rw [ht]; exact hw.2.1, va_K.moved hW.alike hw.1, hw.2.2.1⟩, hw.2.2.2.1.F ht⟩) hw.2.2.2.1.2.2 dX12_winters_55
