theorem ts_7_11 : Cond.selects "BoyBishopModel" ⟨"BoyBishopModel", "gainBy", "(III)I"⟩ ⟨"BoyBishopModel", "gainBy", "(III)I"⟩ ∈ gT := gT_in (List.mem_append_left _ (List.mem_map.mpr ⟨(⟨"BoyBishopModel", "gainBy", "(III)I"⟩, 38), (List.mem_append_right _ (List.mem_append_right _ (List.mem_append_right _ (List.mem_append_right _ (List.mem_append_right _ (List.mem_append_right _ (List.mem_append_right _ (List.mem_append_left _ (List.mem_of_getElem? (i := 11) rfl))))))))), rfl⟩)) rfl
theorem ts_7_13 : Cond.selects "BoyBishopModel" ⟨"BoyBishopModel", "goneTill", "(II)I"⟩ ⟨"BoyBishopModel", "goneTill", "(II)I"⟩ ∈ gT := gT_in (List.mem_append_left _ (List.mem_map.mpr ⟨(⟨"BoyBishopModel", "goneTill", "(II)I"⟩, 38), (List.mem_append_right _ (List.mem_append_right _ (List.mem_append_right _ (List.mem_append_right _ (List.mem_append_right _ (List.mem_append_right _ (List.mem_append_right _ (List.mem_append_left _ (List.mem_of_getElem? (i := 13) rfl))))))))), rfl⟩)) rfl
theorem tw_1668 : (Jvm.Cond.methodLink "BoyBishopModel" (430 : Nat) ({ cls := "BoyBishopModel", name := "gainBy", desc := "(III)I" } : Jvm.MethodName)) ∈ gT := gT_in (List.mem_append_right _ (List.mem_append_right _ (List.mem_append_right _ (List.mem_append_right _ (List.mem_append_right _ (List.mem_append_right _ (List.mem_append_right _ (List.mem_append_left _ (List.mem_of_getElem? (i := 228) rfl))))))))) rfl
theorem tw_1670 : (Jvm.Cond.instanceMethod ({ cls := "BoyBishopModel", name := "gainBy", desc := "(III)I" } : Jvm.MethodName)) ∈ gT := gT_in (List.mem_append_right _ (List.mem_append_right _ (List.mem_append_right _ (List.mem_append_right _ (List.mem_append_right _ (List.mem_append_right _ (List.mem_append_right _ (List.mem_append_left _ (List.mem_of_getElem? (i := 230) rfl))))))))) rfl
theorem tw_1671 : (Jvm.Cond.code ({ cls := "BoyBishopModel", name := "gainBy", desc := "(III)I" } : Jvm.MethodName) prog_14_method_102_code (4 : Nat) (Option.some Jvm.ClassFile.FieldType.int)) ∈ gT := gT_in (List.mem_append_right _ (List.mem_append_right _ (List.mem_append_right _ (List.mem_append_right _ (List.mem_append_right _ (List.mem_append_right _ (List.mem_append_right _ (List.mem_append_left _ (List.mem_of_getElem? (i := 231) rfl))))))))) rfl
theorem tw_1680 : (Jvm.Cond.methodLink "BoyBishopModel" (438 : Nat) ({ cls := "BoyBishopModel", name := "goneTill", desc := "(II)I" } : Jvm.MethodName)) ∈ gT := gT_in (List.mem_append_right _ (List.mem_append_right _ (List.mem_append_right _ (List.mem_append_right _ (List.mem_append_right _ (List.mem_append_right _ (List.mem_append_right _ (List.mem_append_right _ (List.mem_of_getElem? (i := 0) rfl))))))))) rfl
theorem tw_1682 : (Jvm.Cond.instanceMethod ({ cls := "BoyBishopModel", name := "goneTill", desc := "(II)I" } : Jvm.MethodName)) ∈ gT := gT_in (List.mem_append_right _ (List.mem_append_right _ (List.mem_append_right _ (List.mem_append_right _ (List.mem_append_right _ (List.mem_append_right _ (List.mem_append_right _ (List.mem_append_right _ (List.mem_of_getElem? (i := 2) rfl))))))))) rfl
theorem tw_1683 : (Jvm.Cond.code ({ cls := "BoyBishopModel", name := "goneTill", desc := "(II)I" } : Jvm.MethodName) prog_14_method_105_code (7 : Nat) (Option.some Jvm.ClassFile.FieldType.int)) ∈ gT := gT_in (List.mem_append_right _ (List.mem_append_right _ (List.mem_append_right _ (List.mem_append_right _ (List.mem_append_right _ (List.mem_append_right _ (List.mem_append_right _ (List.mem_append_right _ (List.mem_of_getElem? (i := 3) rfl))))))))) rfl
theorem dX12_hoursOf_0 : decode cX12_hoursOf 0 = .ok (.iload_n 1, 1) := by decide +kernel
theorem dX12_hoursOf_1 : decode cX12_hoursOf 1 = .ok (.ifCond .ne 7, 3) := by decide +kernel
theorem dX12_hoursOf_4 : decode cX12_hoursOf 4 = .ok (.iconst 0, 1) := by decide +kernel
theorem dX12_hoursOf_5 : decode cX12_hoursOf 5 = .ok (.goto 6, 3) := by decide +kernel
theorem dX12_hoursOf_8 : decode cX12_hoursOf 8 = .ok (.sipush 999, 3) := by decide +kernel
theorem dX12_hoursOf_11 : decode cX12_hoursOf 11 = .ok (.istore_n 2, 1) := by decide +kernel
theorem dX12_hoursOf_12 : decode cX12_hoursOf 12 = .ok (.iconst 0, 1) := by decide +kernel
theorem dX12_hoursOf_13 : decode cX12_hoursOf 13 = .ok (.istore_n 3, 1) := by decide +kernel
theorem dX12_hoursOf_14 : decode cX12_hoursOf 14 = .ok (.iload_n 3, 1) := by decide +kernel
theorem dX12_hoursOf_15 : decode cX12_hoursOf 15 = .ok (.aload_n 0, 1) := by decide +kernel
theorem dX12_hoursOf_16 : decode cX12_hoursOf 16 = .ok (.getfield 39, 3) := by decide +kernel
theorem dX12_hoursOf_19 : decode cX12_hoursOf 19 = .ok (.iconst 5, 1) := by decide +kernel
theorem dX12_hoursOf_20 : decode cX12_hoursOf 20 = .ok (.iaload, 1) := by decide +kernel
theorem dX12_hoursOf_21 : decode cX12_hoursOf 21 = .ok (.if_icmp .ge 72, 3) := by decide +kernel
theorem dX12_hoursOf_24 : decode cX12_hoursOf 24 = .ok (.iload_n 1, 1) := by decide +kernel
theorem dX12_hoursOf_25 : decode cX12_hoursOf 25 = .ok (.iload_n 3, 1) := by decide +kernel
theorem dX12_hoursOf_26 : decode cX12_hoursOf 26 = .ok (.invokestatic 406, 3) := by decide +kernel
theorem dX12_hoursOf_29 : decode cX12_hoursOf 29 = .ok (.ifCond .ne 6, 3) := by decide +kernel
theorem dX12_hoursOf_32 : decode cX12_hoursOf 32 = .ok (.goto 55, 3) := by decide +kernel
theorem dX12_hoursOf_35 : decode cX12_hoursOf 35 = .ok (.aload_n 0, 1) := by decide +kernel
theorem dX12_hoursOf_36 : decode cX12_hoursOf 36 = .ok (.getfield 61, 3) := by decide +kernel
theorem dX12_hoursOf_39 : decode cX12_hoursOf 39 = .ok (.bipush 6, 2) := by decide +kernel
theorem dX12_hoursOf_41 : decode cX12_hoursOf 41 = .ok (.iload_n 1, 1) := by decide +kernel
theorem dX12_hoursOf_42 : decode cX12_hoursOf 42 = .ok (.imul, 1) := by decide +kernel
theorem dX12_hoursOf_43 : decode cX12_hoursOf 43 = .ok (.iload_n 3, 1) := by decide +kernel
theorem dX12_hoursOf_44 : decode cX12_hoursOf 44 = .ok (.iadd, 1) := by decide +kernel
theorem dX12_hoursOf_45 : decode cX12_hoursOf 45 = .ok (.aload_n 0, 1) := by decide +kernel
theorem dX12_hoursOf_46 : decode cX12_hoursOf 46 = .ok (.iload_n 1, 1) := by decide +kernel
theorem dX12_hoursOf_47 : decode cX12_hoursOf 47 = .ok (.iload_n 3, 1) := by decide +kernel
theorem dX12_hoursOf_48 : decode cX12_hoursOf 48 = .ok (.invokevirtual 438, 3) := by decide +kernel
theorem dX12_hoursOf_51 : decode cX12_hoursOf 51 = .ok (.iastore, 1) := by decide +kernel
theorem dX12_hoursOf_52 : decode cX12_hoursOf 52 = .ok (.aload_n 0, 1) := by decide +kernel
theorem dX12_hoursOf_53 : decode cX12_hoursOf 53 = .ok (.getfield 61, 3) := by decide +kernel
theorem dX12_hoursOf_56 : decode cX12_hoursOf 56 = .ok (.bipush 6, 2) := by decide +kernel
theorem dX12_hoursOf_58 : decode cX12_hoursOf 58 = .ok (.iload_n 1, 1) := by decide +kernel
theorem dX12_hoursOf_59 : decode cX12_hoursOf 59 = .ok (.imul, 1) := by decide +kernel
theorem dX12_hoursOf_60 : decode cX12_hoursOf 60 = .ok (.iload_n 3, 1) := by decide +kernel
theorem dX12_hoursOf_61 : decode cX12_hoursOf 61 = .ok (.iadd, 1) := by decide +kernel
theorem dX12_hoursOf_62 : decode cX12_hoursOf 62 = .ok (.iaload, 1) := by decide +kernel
theorem dX12_hoursOf_63 : decode cX12_hoursOf 63 = .ok (.aload_n 0, 1) := by decide +kernel
theorem dX12_hoursOf_64 : decode cX12_hoursOf 64 = .ok (.iload_n 3, 1) := by decide +kernel
theorem dX12_hoursOf_65 : decode cX12_hoursOf 65 = .ok (.iconst 1, 1) := by decide +kernel
theorem dX12_hoursOf_66 : decode cX12_hoursOf 66 = .ok (.iadd, 1) := by decide +kernel
theorem dX12_hoursOf_67 : decode cX12_hoursOf 67 = .ok (.iconst 0, 1) := by decide +kernel
theorem dX12_hoursOf_68 : decode cX12_hoursOf 68 = .ok (.invokevirtual 317, 3) := by decide +kernel
theorem dX12_hoursOf_71 : decode cX12_hoursOf 71 = .ok (.iadd, 1) := by decide +kernel
theorem dX12_hoursOf_72 : decode cX12_hoursOf 72 = .ok (.istore 4, 2) := by decide +kernel
theorem dX12_hoursOf_74 : decode cX12_hoursOf 74 = .ok (.iload 4, 2) := by decide +kernel
theorem dX12_hoursOf_76 : decode cX12_hoursOf 76 = .ok (.iload_n 2, 1) := by decide +kernel
theorem dX12_hoursOf_77 : decode cX12_hoursOf 77 = .ok (.if_icmp .ge 8, 3) := by decide +kernel
theorem dX12_hoursOf_80 : decode cX12_hoursOf 80 = .ok (.iload 4, 2) := by decide +kernel
theorem dX12_hoursOf_82 : decode cX12_hoursOf 82 = .ok (.goto 4, 3) := by decide +kernel
theorem dX12_hoursOf_85 : decode cX12_hoursOf 85 = .ok (.iload_n 2, 1) := by decide +kernel
theorem dX12_hoursOf_86 : decode cX12_hoursOf 86 = .ok (.istore_n 2, 1) := by decide +kernel
theorem dX12_hoursOf_87 : decode cX12_hoursOf 87 = .ok (.iinc 3 1, 3) := by decide +kernel
theorem dX12_hoursOf_90 : decode cX12_hoursOf 90 = .ok (.goto (-76), 3) := by decide +kernel
theorem dX12_hoursOf_93 : decode cX12_hoursOf 93 = .ok (.iload_n 2, 1) := by decide +kernel
theorem dX12_hoursOf_94 : decode cX12_hoursOf 94 = .ok (.ireturn, 1) := by decide +kernel
theorem dX12_image_0 : decode cX12_image 0 = .ok (.iload_n 1, 1) := by decide +kernel
theorem dX12_image_1 : decode cX12_image 1 = .ok (.i2l, 1) := by decide +kernel
theorem dX12_image_2 : decode cX12_image 2 = .ok (.lconst 0, 1) := by decide +kernel
theorem dX12_image_3 : decode cX12_image 3 = .ok (.ldc2_w 323, 3) := by decide +kernel
theorem dX12_image_6 : decode cX12_image 6 = .ok (.invokestatic 121, 3) := by decide +kernel
theorem dX12_image_9 : decode cX12_image 9 = .ok (.ifCond .ne 5, 3) := by decide +kernel
theorem dX12_image_12 : decode cX12_image 12 = .ok (.iconst (-1), 1) := by decide +kernel
theorem dX12_image_13 : decode cX12_image 13 = .ok (.ireturn, 1) := by decide +kernel
theorem dX12_image_14 : decode cX12_image 14 = .ok (.aload_n 0, 1) := by decide +kernel
theorem dX12_image_15 : decode cX12_image 15 = .ok (.getfield 80, 3) := by decide +kernel
theorem dX12_image_18 : decode cX12_image 18 = .ok (.iload_n 1, 1) := by decide +kernel
theorem dX12_image_19 : decode cX12_image 19 = .ok (.iconst 1, 1) := by decide +kernel
theorem dX12_image_20 : decode cX12_image 20 = .ok (.bastore, 1) := by decide +kernel
theorem dX12_image_21 : decode cX12_image 21 = .ok (.aload_n 0, 1) := by decide +kernel
theorem dX12_image_22 : decode cX12_image 22 = .ok (.getfield 74, 3) := by decide +kernel
theorem dX12_image_25 : decode cX12_image 25 = .ok (.iload_n 1, 1) := by decide +kernel
theorem dX12_image_26 : decode cX12_image 26 = .ok (.aload_n 0, 1) := by decide +kernel
theorem dX12_image_27 : decode cX12_image 27 = .ok (.getfield 42, 3) := by decide +kernel
theorem dX12_image_30 : decode cX12_image 30 = .ok (.iastore, 1) := by decide +kernel
theorem dX12_image_31 : decode cX12_image 31 = .ok (.aload_n 0, 1) := by decide +kernel
theorem dX12_image_32 : decode cX12_image 32 = .ok (.getfield 77, 3) := by decide +kernel
theorem dX12_image_35 : decode cX12_image 35 = .ok (.iload_n 1, 1) := by decide +kernel
theorem dX12_image_36 : decode cX12_image 36 = .ok (.aload_n 0, 1) := by decide +kernel
theorem dX12_image_37 : decode cX12_image 37 = .ok (.getfield 456, 3) := by decide +kernel
theorem dX12_image_40 : decode cX12_image 40 = .ok (.iastore, 1) := by decide +kernel
theorem dX12_image_41 : decode cX12_image 41 = .ok (.iconst 0, 1) := by decide +kernel
theorem dX12_image_42 : decode cX12_image 42 = .ok (.istore_n 2, 1) := by decide +kernel
theorem dX12_image_43 : decode cX12_image 43 = .ok (.iload_n 2, 1) := by decide +kernel
theorem dX12_image_44 : decode cX12_image 44 = .ok (.sipush 306, 3) := by decide +kernel
theorem dX12_image_47 : decode cX12_image 47 = .ok (.if_icmp .ge 27, 3) := by decide +kernel
theorem dX12_image_50 : decode cX12_image 50 = .ok (.aload_n 0, 1) := by decide +kernel
theorem dX12_image_51 : decode cX12_image 51 = .ok (.getfield 71, 3) := by decide +kernel
theorem dX12_image_54 : decode cX12_image 54 = .ok (.sipush 306, 3) := by decide +kernel
theorem dX12_image_57 : decode cX12_image 57 = .ok (.iload_n 1, 1) := by decide +kernel
theorem dX12_image_58 : decode cX12_image 58 = .ok (.imul, 1) := by decide +kernel
theorem dX12_image_59 : decode cX12_image 59 = .ok (.iload_n 2, 1) := by decide +kernel
theorem dX12_image_60 : decode cX12_image 60 = .ok (.iadd, 1) := by decide +kernel
theorem dX12_image_61 : decode cX12_image 61 = .ok (.aload_n 0, 1) := by decide +kernel
theorem dX12_image_62 : decode cX12_image 62 = .ok (.getfield 39, 3) := by decide +kernel
theorem dX12_image_65 : decode cX12_image 65 = .ok (.iload_n 2, 1) := by decide +kernel
theorem dX12_image_66 : decode cX12_image 66 = .ok (.iaload, 1) := by decide +kernel
theorem dX12_image_67 : decode cX12_image 67 = .ok (.iastore, 1) := by decide +kernel
theorem dX12_image_68 : decode cX12_image 68 = .ok (.iinc 2 1, 3) := by decide +kernel
theorem dX12_image_71 : decode cX12_image 71 = .ok (.goto (-28), 3) := by decide +kernel
theorem dX12_image_74 : decode cX12_image 74 = .ok (.aload_n 0, 1) := by decide +kernel
theorem dX12_image_75 : decode cX12_image 75 = .ok (.getfield 39, 3) := by decide +kernel
theorem dX12_image_78 : decode cX12_image 78 = .ok (.bipush 10, 2) := by decide +kernel
theorem dX12_image_80 : decode cX12_image 80 = .ok (.iaload, 1) := by decide +kernel
theorem dX12_image_81 : decode cX12_image 81 = .ok (.ireturn, 1) := by decide +kernel
theorem dX12_isRest_0 : decode cX12_isRest 0 = .ok (.iconst 0, 1) := by decide +kernel
theorem dX12_isRest_1 : decode cX12_isRest 1 = .ok (.istore 5, 2) := by decide +kernel
theorem dX12_isRest_3 : decode cX12_isRest 3 = .ok (.iload 5, 2) := by decide +kernel
theorem dX12_isRest_5 : decode cX12_isRest 5 = .ok (.iconst 5, 1) := by decide +kernel
theorem dX12_isRest_6 : decode cX12_isRest 6 = .ok (.if_icmp .ge 69, 3) := by decide +kernel
theorem dX12_isRest_9 : decode cX12_isRest 9 = .ok (.aload_n 0, 1) := by decide +kernel
theorem dX12_isRest_10 : decode cX12_isRest 10 = .ok (.iload_n 1, 1) := by decide +kernel
theorem dX12_isRest_11 : decode cX12_isRest 11 = .ok (.iload 5, 2) := by decide +kernel
theorem dX12_isRest_13 : decode cX12_isRest 13 = .ok (.iconst 5, 1) := by decide +kernel
theorem dX12_isRest_14 : decode cX12_isRest 14 = .ok (.iload 5, 2) := by decide +kernel
theorem dX12_isRest_16 : decode cX12_isRest 16 = .ok (.imul, 1) := by decide +kernel
theorem dX12_isRest_17 : decode cX12_isRest 17 = .ok (.iload 4, 2) := by decide +kernel
theorem dX12_isRest_19 : decode cX12_isRest 19 = .ok (.iadd, 1) := by decide +kernel
theorem dX12_isRest_20 : decode cX12_isRest 20 = .ok (.invokevirtual 430, 3) := by decide +kernel
theorem dX12_isRest_23 : decode cX12_isRest 23 = .ok (.aload_n 0, 1) := by decide +kernel
theorem dX12_isRest_24 : decode cX12_isRest 24 = .ok (.iload_n 1, 1) := by decide +kernel
theorem dX12_isRest_25 : decode cX12_isRest 25 = .ok (.iload_n 3, 1) := by decide +kernel
theorem dX12_isRest_26 : decode cX12_isRest 26 = .ok (.iconst 5, 1) := by decide +kernel
theorem dX12_isRest_27 : decode cX12_isRest 27 = .ok (.iload_n 3, 1) := by decide +kernel
theorem dX12_isRest_28 : decode cX12_isRest 28 = .ok (.imul, 1) := by decide +kernel
theorem dX12_isRest_29 : decode cX12_isRest 29 = .ok (.iload 4, 2) := by decide +kernel
theorem dX12_isRest_31 : decode cX12_isRest 31 = .ok (.iadd, 1) := by decide +kernel
theorem dX12_isRest_32 : decode cX12_isRest 32 = .ok (.invokevirtual 430, 3) := by decide +kernel
theorem dX12_isRest_35 : decode cX12_isRest 35 = .ok (.if_icmp .gt 32, 3) := by decide +kernel
theorem dX12_isRest_38 : decode cX12_isRest 38 = .ok (.aload_n 0, 1) := by decide +kernel
theorem dX12_isRest_39 : decode cX12_isRest 39 = .ok (.iload_n 2, 1) := by decide +kernel
theorem dX12_isRest_40 : decode cX12_isRest 40 = .ok (.iload 5, 2) := by decide +kernel
theorem dX12_isRest_42 : decode cX12_isRest 42 = .ok (.iconst 5, 1) := by decide +kernel
theorem dX12_isRest_43 : decode cX12_isRest 43 = .ok (.iload_n 3, 1) := by decide +kernel
theorem dX12_isRest_44 : decode cX12_isRest 44 = .ok (.imul, 1) := by decide +kernel
theorem dX12_isRest_45 : decode cX12_isRest 45 = .ok (.iload 5, 2) := by decide +kernel
theorem dX12_isRest_47 : decode cX12_isRest 47 = .ok (.iadd, 1) := by decide +kernel
theorem dX12_isRest_48 : decode cX12_isRest 48 = .ok (.invokevirtual 430, 3) := by decide +kernel
theorem dX12_isRest_51 : decode cX12_isRest 51 = .ok (.aload_n 0, 1) := by decide +kernel
theorem dX12_isRest_52 : decode cX12_isRest 52 = .ok (.iload_n 2, 1) := by decide +kernel
theorem dX12_isRest_53 : decode cX12_isRest 53 = .ok (.iload 4, 2) := by decide +kernel
theorem dX12_isRest_55 : decode cX12_isRest 55 = .ok (.iconst 5, 1) := by decide +kernel
theorem dX12_isRest_56 : decode cX12_isRest 56 = .ok (.iload_n 3, 1) := by decide +kernel
theorem dX12_isRest_57 : decode cX12_isRest 57 = .ok (.imul, 1) := by decide +kernel
theorem dX12_isRest_58 : decode cX12_isRest 58 = .ok (.iload 4, 2) := by decide +kernel
theorem dX12_isRest_60 : decode cX12_isRest 60 = .ok (.iadd, 1) := by decide +kernel
theorem dX12_isRest_61 : decode cX12_isRest 61 = .ok (.invokevirtual 430, 3) := by decide +kernel
theorem dX12_isRest_64 : decode cX12_isRest 64 = .ok (.if_icmp .le 5, 3) := by decide +kernel
theorem dX12_isRest_67 : decode cX12_isRest 67 = .ok (.iconst 0, 1) := by decide +kernel
theorem dX12_isRest_68 : decode cX12_isRest 68 = .ok (.ireturn, 1) := by decide +kernel
theorem dX12_isRest_69 : decode cX12_isRest 69 = .ok (.iinc 5 1, 3) := by decide +kernel
theorem dX12_isRest_72 : decode cX12_isRest 72 = .ok (.goto (-69), 3) := by decide +kernel
theorem dX12_isRest_75 : decode cX12_isRest 75 = .ok (.iconst 1, 1) := by decide +kernel
theorem dX12_isRest_76 : decode cX12_isRest 76 = .ok (.ireturn, 1) := by decide +kernel
theorem dX12_isWonBy_0 : decode cX12_isWonBy 0 = .ok (.aload_n 0, 1) := by decide +kernel
theorem dX12_isWonBy_1 : decode cX12_isWonBy 1 = .ok (.invokevirtual 349, 3) := by decide +kernel
theorem dX12_isWonBy_4 : decode cX12_isWonBy 4 = .ok (.iconst 0, 1) := by decide +kernel
theorem dX12_isWonBy_5 : decode cX12_isWonBy 5 = .ok (.istore_n 3, 1) := by decide +kernel
theorem dX12_isWonBy_6 : decode cX12_isWonBy 6 = .ok (.iload_n 3, 1) := by decide +kernel
theorem dX12_isWonBy_7 : decode cX12_isWonBy 7 = .ok (.aload_n 0, 1) := by decide +kernel
theorem dX12_isWonBy_8 : decode cX12_isWonBy 8 = .ok (.getfield 39, 3) := by decide +kernel
theorem dX12_isWonBy_11 : decode cX12_isWonBy 11 = .ok (.iconst 3, 1) := by decide +kernel
theorem dX12_isWonBy_12 : decode cX12_isWonBy 12 = .ok (.iaload, 1) := by decide +kernel
theorem dX12_isWonBy_13 : decode cX12_isWonBy 13 = .ok (.if_icmp .ge 24, 3) := by decide +kernel
theorem dX12_isWonBy_16 : decode cX12_isWonBy 16 = .ok (.iload_n 2, 1) := by decide +kernel
theorem dX12_isWonBy_17 : decode cX12_isWonBy 17 = .ok (.iload_n 3, 1) := by decide +kernel
theorem dX12_isWonBy_18 : decode cX12_isWonBy 18 = .ok (.invokestatic 406, 3) := by decide +kernel
theorem dX12_isWonBy_21 : decode cX12_isWonBy 21 = .ok (.ifCond .eq 10, 3) := by decide +kernel
theorem dX12_isWonBy_24 : decode cX12_isWonBy 24 = .ok (.aload_n 0, 1) := by decide +kernel
theorem dX12_isWonBy_25 : decode cX12_isWonBy 25 = .ok (.getfield 46, 3) := by decide +kernel
theorem dX12_isWonBy_28 : decode cX12_isWonBy 28 = .ok (.iload_n 3, 1) := by decide +kernel
theorem dX12_isWonBy_29 : decode cX12_isWonBy 29 = .ok (.iload_n 1, 1) := by decide +kernel
theorem dX12_isWonBy_30 : decode cX12_isWonBy 30 = .ok (.iastore, 1) := by decide +kernel
theorem dX12_isWonBy_31 : decode cX12_isWonBy 31 = .ok (.iinc 3 1, 3) := by decide +kernel
theorem dX12_isWonBy_34 : decode cX12_isWonBy 34 = .ok (.goto (-28), 3) := by decide +kernel
theorem dX12_isWonBy_37 : decode cX12_isWonBy 37 = .ok (.aload_n 0, 1) := by decide +kernel
theorem dX12_isWonBy_38 : decode cX12_isWonBy 38 = .ok (.invokevirtual 352, 3) := by decide +kernel
theorem dX12_isWonBy_41 : decode cX12_isWonBy 41 = .ok (.iload_n 1, 1) := by decide +kernel
theorem dX12_isWonBy_42 : decode cX12_isWonBy 42 = .ok (.if_icmp .ne 7, 3) := by decide +kernel
theorem dX12_isWonBy_45 : decode cX12_isWonBy 45 = .ok (.iconst 1, 1) := by decide +kernel
theorem dX12_isWonBy_46 : decode cX12_isWonBy 46 = .ok (.goto 4, 3) := by decide +kernel
theorem dX12_isWonBy_49 : decode cX12_isWonBy 49 = .ok (.iconst 0, 1) := by decide +kernel
theorem dX12_isWonBy_50 : decode cX12_isWonBy 50 = .ok (.ireturn, 1) := by decide +kernel
theorem dX12_laidIn_0 : decode cX12_laidIn 0 = .ok (.iconst 0, 1) := by decide +kernel
theorem dX12_laidIn_1 : decode cX12_laidIn 1 = .ok (.istore_n 2, 1) := by decide +kernel
theorem dX12_laidIn_2 : decode cX12_laidIn 2 = .ok (.iconst 0, 1) := by decide +kernel
theorem dX12_laidIn_3 : decode cX12_laidIn 3 = .ok (.istore_n 3, 1) := by decide +kernel
theorem dX12_laidIn_4 : decode cX12_laidIn 4 = .ok (.iload_n 3, 1) := by decide +kernel
theorem dX12_laidIn_5 : decode cX12_laidIn 5 = .ok (.aload_n 0, 1) := by decide +kernel
theorem dX12_laidIn_6 : decode cX12_laidIn 6 = .ok (.getfield 39, 3) := by decide +kernel
theorem dX12_laidIn_9 : decode cX12_laidIn 9 = .ok (.iconst 5, 1) := by decide +kernel
theorem dX12_laidIn_10 : decode cX12_laidIn 10 = .ok (.iaload, 1) := by decide +kernel
theorem dX12_laidIn_11 : decode cX12_laidIn 11 = .ok (.if_icmp .ge 33, 3) := by decide +kernel
theorem dX12_laidIn_14 : decode cX12_laidIn 14 = .ok (.iload_n 2, 1) := by decide +kernel
theorem dX12_laidIn_15 : decode cX12_laidIn 15 = .ok (.iload_n 1, 1) := by decide +kernel
theorem dX12_laidIn_16 : decode cX12_laidIn 16 = .ok (.iload_n 3, 1) := by decide +kernel
theorem dX12_laidIn_17 : decode cX12_laidIn 17 = .ok (.invokestatic 406, 3) := by decide +kernel
theorem dX12_laidIn_20 : decode cX12_laidIn 20 = .ok (.ifCond .eq 15, 3) := by decide +kernel
theorem dX12_laidIn_23 : decode cX12_laidIn 23 = .ok (.aload_n 0, 1) := by decide +kernel
theorem dX12_laidIn_24 : decode cX12_laidIn 24 = .ok (.getfield 39, 3) := by decide +kernel
theorem dX12_laidIn_27 : decode cX12_laidIn 27 = .ok (.bipush 34, 2) := by decide +kernel
theorem dX12_laidIn_29 : decode cX12_laidIn 29 = .ok (.iload_n 3, 1) := by decide +kernel
theorem dX12_laidIn_30 : decode cX12_laidIn 30 = .ok (.iadd, 1) := by decide +kernel
theorem dX12_laidIn_31 : decode cX12_laidIn 31 = .ok (.iaload, 1) := by decide +kernel
theorem dX12_laidIn_32 : decode cX12_laidIn 32 = .ok (.goto 4, 3) := by decide +kernel
theorem dX12_laidIn_35 : decode cX12_laidIn 35 = .ok (.iconst 0, 1) := by decide +kernel
theorem dX12_laidIn_36 : decode cX12_laidIn 36 = .ok (.iadd, 1) := by decide +kernel
theorem dX12_laidIn_37 : decode cX12_laidIn 37 = .ok (.istore_n 2, 1) := by decide +kernel
theorem dX12_laidIn_38 : decode cX12_laidIn 38 = .ok (.iinc 3 1, 3) := by decide +kernel
theorem dX12_laidIn_41 : decode cX12_laidIn 41 = .ok (.goto (-37), 3) := by decide +kernel
theorem dX12_laidIn_44 : decode cX12_laidIn 44 = .ok (.iload_n 2, 1) := by decide +kernel
theorem dX12_laidIn_45 : decode cX12_laidIn 45 = .ok (.ireturn, 1) := by decide +kernel
theorem dX12_least_0 : decode cX12_least 0 = .ok (.aload_n 0, 1) := by decide +kernel
theorem dX12_least_1 : decode cX12_least 1 = .ok (.iload_n 1, 1) := by decide +kernel
theorem dX12_least_2 : decode cX12_least 2 = .ok (.invokevirtual 314, 3) := by decide +kernel
theorem dX12_least_5 : decode cX12_least 5 = .ok (.ifCond .ne 5, 3) := by decide +kernel
theorem dX12_least_8 : decode cX12_least 8 = .ok (.iconst (-1), 1) := by decide +kernel
theorem dX12_least_9 : decode cX12_least 9 = .ok (.ireturn, 1) := by decide +kernel
theorem dX12_least_10 : decode cX12_least 10 = .ok (.aload_n 0, 1) := by decide +kernel
theorem dX12_least_11 : decode cX12_least 11 = .ok (.iload_n 1, 1) := by decide +kernel
theorem dX12_least_12 : decode cX12_least 12 = .ok (.iconst 1, 1) := by decide +kernel
theorem dX12_least_13 : decode cX12_least 13 = .ok (.invokevirtual 304, 3) := by decide +kernel
theorem dX12_least_16 : decode cX12_least 16 = .ok (.istore_n 2, 1) := by decide +kernel
theorem dX12_least_17 : decode cX12_least 17 = .ok (.bipush (-2), 2) := by decide +kernel
theorem dX12_least_19 : decode cX12_least 19 = .ok (.istore_n 3, 1) := by decide +kernel
theorem dX12_least_20 : decode cX12_least 20 = .ok (.bipush 20, 2) := by decide +kernel
theorem dX12_least_22 : decode cX12_least 22 = .ok (.istore 4, 2) := by decide +kernel
theorem dX12_least_24 : decode cX12_least 24 = .ok (.iload 4, 2) := by decide +kernel
theorem dX12_least_26 : decode cX12_least 26 = .ok (.ifCond .lt 35, 3) := by decide +kernel
theorem dX12_least_29 : decode cX12_least 29 = .ok (.aload_n 0, 1) := by decide +kernel
theorem dX12_least_30 : decode cX12_least 30 = .ok (.getfield 39, 3) := by decide +kernel
theorem dX12_least_33 : decode cX12_least 33 = .ok (.bipush 16, 2) := by decide +kernel
theorem dX12_least_35 : decode cX12_least 35 = .ok (.iconst 3, 1) := by decide +kernel
theorem dX12_least_36 : decode cX12_least 36 = .ok (.iload_n 1, 1) := by decide +kernel
theorem dX12_least_37 : decode cX12_least 37 = .ok (.imul, 1) := by decide +kernel
theorem dX12_least_38 : decode cX12_least 38 = .ok (.iadd, 1) := by decide +kernel
theorem dX12_least_39 : decode cX12_least 39 = .ok (.iconst 1, 1) := by decide +kernel
theorem dX12_least_40 : decode cX12_least 40 = .ok (.iadd, 1) := by decide +kernel
theorem dX12_least_41 : decode cX12_least 41 = .ok (.iload 4, 2) := by decide +kernel
theorem dX12_least_43 : decode cX12_least 43 = .ok (.iastore, 1) := by decide +kernel
theorem dX12_least_44 : decode cX12_least 44 = .ok (.aload_n 0, 1) := by decide +kernel
theorem dX12_least_45 : decode cX12_least 45 = .ok (.invokevirtual 355, 3) := by decide +kernel
theorem dX12_least_48 : decode cX12_least 48 = .ok (.iload_n 1, 1) := by decide +kernel
theorem dX12_least_49 : decode cX12_least 49 = .ok (.if_icmp .ne 6, 3) := by decide +kernel
theorem dX12_least_52 : decode cX12_least 52 = .ok (.iload 4, 2) := by decide +kernel
theorem dX12_least_54 : decode cX12_least 54 = .ok (.istore_n 3, 1) := by decide +kernel
theorem dX12_least_55 : decode cX12_least 55 = .ok (.iinc 4 (-1), 3) := by decide +kernel
theorem dX12_least_58 : decode cX12_least 58 = .ok (.goto (-34), 3) := by decide +kernel
theorem dX12_least_61 : decode cX12_least 61 = .ok (.aload_n 0, 1) := by decide +kernel
theorem dX12_least_62 : decode cX12_least 62 = .ok (.getfield 39, 3) := by decide +kernel
theorem dX12_least_65 : decode cX12_least 65 = .ok (.bipush 16, 2) := by decide +kernel
theorem dX12_least_67 : decode cX12_least 67 = .ok (.iconst 3, 1) := by decide +kernel
theorem dX12_least_68 : decode cX12_least 68 = .ok (.iload_n 1, 1) := by decide +kernel
theorem dX12_least_69 : decode cX12_least 69 = .ok (.imul, 1) := by decide +kernel
theorem dX12_least_70 : decode cX12_least 70 = .ok (.iadd, 1) := by decide +kernel
theorem dX12_least_71 : decode cX12_least 71 = .ok (.iconst 1, 1) := by decide +kernel
theorem dX12_least_72 : decode cX12_least 72 = .ok (.iadd, 1) := by decide +kernel
theorem dX12_least_73 : decode cX12_least 73 = .ok (.iload_n 2, 1) := by decide +kernel
theorem dX12_least_74 : decode cX12_least 74 = .ok (.iastore, 1) := by decide +kernel
theorem dX12_least_75 : decode cX12_least 75 = .ok (.iload_n 3, 1) := by decide +kernel
theorem dX12_least_76 : decode cX12_least 76 = .ok (.ireturn, 1) := by decide +kernel
theorem dX12_likely_0 : decode cX12_likely 0 = .ok (.aload_n 0, 1) := by decide +kernel
theorem dX12_likely_1 : decode cX12_likely 1 = .ok (.iload_n 1, 1) := by decide +kernel
theorem dX12_likely_2 : decode cX12_likely 2 = .ok (.invokevirtual 361, 3) := by decide +kernel
theorem dX12_likely_5 : decode cX12_likely 5 = .ok (.ifCond .eq 15, 3) := by decide +kernel
theorem dX12_likely_8 : decode cX12_likely 8 = .ok (.iload_n 2, 1) := by decide +kernel
theorem dX12_likely_9 : decode cX12_likely 9 = .ok (.i2l, 1) := by decide +kernel
theorem dX12_likely_10 : decode cX12_likely 10 = .ok (.lconst 1, 1) := by decide +kernel
theorem dX12_likely_11 : decode cX12_likely 11 = .ok (.ldc2_w 390, 3) := by decide +kernel
theorem dX12_likely_14 : decode cX12_likely 14 = .ok (.invokestatic 121, 3) := by decide +kernel
theorem dX12_likely_17 : decode cX12_likely 17 = .ok (.ifCond .ne 5, 3) := by decide +kernel
theorem dX12_likely_20 : decode cX12_likely 20 = .ok (.iconst (-1), 1) := by decide +kernel
theorem dX12_likely_21 : decode cX12_likely 21 = .ok (.ireturn, 1) := by decide +kernel
theorem dX12_likely_22 : decode cX12_likely 22 = .ok (.sipush 10000, 3) := by decide +kernel
theorem dX12_likely_25 : decode cX12_likely 25 = .ok (.istore_n 3, 1) := by decide +kernel
theorem dX12_likely_26 : decode cX12_likely 26 = .ok (.iconst 0, 1) := by decide +kernel
theorem dX12_likely_27 : decode cX12_likely 27 = .ok (.istore 4, 2) := by decide +kernel
theorem dX12_likely_29 : decode cX12_likely 29 = .ok (.iload 4, 2) := by decide +kernel
theorem dX12_likely_31 : decode cX12_likely 31 = .ok (.iload_n 2, 1) := by decide +kernel
theorem dX12_likely_32 : decode cX12_likely 32 = .ok (.if_icmp .ge 28, 3) := by decide +kernel
theorem dX12_likely_35 : decode cX12_likely 35 = .ok (.iload_n 3, 1) := by decide +kernel
theorem dX12_likely_36 : decode cX12_likely 36 = .ok (.iload_n 3, 1) := by decide +kernel
theorem dX12_likely_37 : decode cX12_likely 37 = .ok (.aload_n 0, 1) := by decide +kernel
theorem dX12_likely_38 : decode cX12_likely 38 = .ok (.iload_n 1, 1) := by decide +kernel
theorem dX12_likely_39 : decode cX12_likely 39 = .ok (.iconst 0, 1) := by decide +kernel
theorem dX12_likely_40 : decode cX12_likely 40 = .ok (.invokevirtual 311, 3) := by decide +kernel
theorem dX12_likely_43 : decode cX12_likely 43 = .ok (.imul, 1) := by decide +kernel
theorem dX12_likely_44 : decode cX12_likely 44 = .ok (.sipush 999, 3) := by decide +kernel
theorem dX12_likely_47 : decode cX12_likely 47 = .ok (.iadd, 1) := by decide +kernel
theorem dX12_likely_48 : decode cX12_likely 48 = .ok (.sipush 1000, 3) := by decide +kernel
theorem dX12_likely_51 : decode cX12_likely 51 = .ok (.idiv, 1) := by decide +kernel
theorem dX12_likely_52 : decode cX12_likely 52 = .ok (.isub, 1) := by decide +kernel
theorem dX12_likely_53 : decode cX12_likely 53 = .ok (.istore_n 3, 1) := by decide +kernel
theorem dX12_likely_54 : decode cX12_likely 54 = .ok (.iinc 4 1, 3) := by decide +kernel
theorem dX12_likely_57 : decode cX12_likely 57 = .ok (.goto (-28), 3) := by decide +kernel
theorem dX12_likely_60 : decode cX12_likely 60 = .ok (.sipush 10000, 3) := by decide +kernel
theorem dX12_likely_63 : decode cX12_likely 63 = .ok (.iload_n 3, 1) := by decide +kernel
theorem dX12_likely_64 : decode cX12_likely 64 = .ok (.isub, 1) := by decide +kernel
theorem dX12_likely_65 : decode cX12_likely 65 = .ok (.ireturn, 1) := by decide +kernel
theorem dX12_likes_0 : decode cX12_likes 0 = .ok (.aload_n 0, 1) := by decide +kernel
theorem dX12_likes_1 : decode cX12_likes 1 = .ok (.iload_n 1, 1) := by decide +kernel
theorem dX12_likes_2 : decode cX12_likes 2 = .ok (.invokevirtual 301, 3) := by decide +kernel
theorem dX12_likes_5 : decode cX12_likes 5 = .ok (.ifCond .eq 28, 3) := by decide +kernel
theorem dX12_likes_8 : decode cX12_likes 8 = .ok (.aload_n 0, 1) := by decide +kernel
theorem dX12_likes_9 : decode cX12_likes 9 = .ok (.iload_n 2, 1) := by decide +kernel
theorem dX12_likes_10 : decode cX12_likes 10 = .ok (.invokevirtual 301, 3) := by decide +kernel
theorem dX12_likes_13 : decode cX12_likes 13 = .ok (.ifCond .eq 20, 3) := by decide +kernel
theorem dX12_likes_16 : decode cX12_likes 16 = .ok (.aload_n 0, 1) := by decide +kernel
theorem dX12_likes_17 : decode cX12_likes 17 = .ok (.getfield 39, 3) := by decide +kernel
theorem dX12_likes_20 : decode cX12_likes 20 = .ok (.bipush 70, 2) := by decide +kernel
theorem dX12_likes_22 : decode cX12_likes 22 = .ok (.bipush 6, 2) := by decide +kernel
theorem dX12_likes_24 : decode cX12_likes 24 = .ok (.iload_n 1, 1) := by decide +kernel
theorem dX12_likes_25 : decode cX12_likes 25 = .ok (.imul, 1) := by decide +kernel
theorem dX12_likes_26 : decode cX12_likes 26 = .ok (.iadd, 1) := by decide +kernel
theorem dX12_likes_27 : decode cX12_likes 27 = .ok (.iload_n 2, 1) := by decide +kernel
theorem dX12_likes_28 : decode cX12_likes 28 = .ok (.iadd, 1) := by decide +kernel
theorem dX12_likes_29 : decode cX12_likes 29 = .ok (.iaload, 1) := by decide +kernel
theorem dX12_likes_30 : decode cX12_likes 30 = .ok (.goto 4, 3) := by decide +kernel
theorem dX12_likes_33 : decode cX12_likes 33 = .ok (.iconst (-1), 1) := by decide +kernel
theorem dX12_likes_34 : decode cX12_likes 34 = .ok (.ireturn, 1) := by decide +kernel
theorem li_1000 : (1000 : Int32).toInt = 1000 := by decide
set_option maxHeartbeats 4000000 in
set_option maxRecDepth 100000 in
theorem t_X12_hoursOf (l : Launch) (dC : Nat → ClassId) (dI : Nat → Nat → Nat) (tys : List (ClassId × FieldType)) (κ : tK) (B : Nat) (ws : va_W) (hT : Ty κ tys B ws) (a0 : Nat) (k_a0 : κ a0 = some 12) (a1 : Int32) (l_a1 : 0 ≤ a1.toInt) (h_a1 : a1.toInt ≤ 63) (sz : Nat) : Met l yX12_hoursOf (ws_u yX12_hoursOf cX12_hoursOf 5 (some .int)) ({ frames := 2, cells := 0, slots := 0, locals := 48 }) (va_Pc [.ref a0, .int a1] (cPre (dC, dI) tys ws sz)) (va_Qi (fun (r : Int32) (w : va_W) => (-2147483648) ≤ r.toInt ∧ r.toInt ≤ 999 ∧ Ty κ tys B w ∧ Sm [] [69] κ ws w) (fun w t => cPost (dC, dI) tys w (va_A ws sz) t) (va_A ws sz)) 0 0 (va_A ws sz) := by
  refine Met.ofW (cc := cX12_hoursOf) (maxL := 5) (ret := (some .int)) (by decide) rfl ?_
  intro p e s m args below meth c s₁ B0 hml hv
  obtain ⟨rfl, hsz, hP, hK, hD0, hE⟩ := hv
  have hx := B0.exec
  have hb := B0.bytes
  have hr := B0.returns
  have hts0 := atoms_spec (ws := ws_u yX12_hoursOf cX12_hoursOf 5 (some .int)) B0.pre
  have hts : ∀ w ∈ gT, w.before _ s = true := fun w h => hts0 w (List.mem_cons_of_mem _ h)
  have hown : s.vm.findClass RX12 = some m.cls := findClass_of_methodNamed B0.named
  have hlocks := B0.notSynchronized
  subst hsz
  have hD := hD0.self (sz := s.heap.size)
  generalize hAe : va_A ws s.heap.size = A at hD ⊢
  have hA : ∀ q : Nat, s.heap.size ≤ q → A q := fun q h => by rw [← hAe]; exact Or.inr h
  have hw : tW (dC, dI) tys κ B A s ws s.heap [] := ⟨hK, hP, hD, va_S.rf, hT⟩
  have hM : Sm [] [69] κ ws ws := Sm.rf
  clear hP hK hD hD0 hts0
  have hl := lv_entry ([.ref a0, .int a1]) (n := 5) (Nat.le_of_ble_eq_true rfl)
  rw [lg_entry_eq]
  generalize (lg_sl ([.ref a0, .int a1]) ++ List.replicate (5 - (lg_sl ([.ref a0, .int a1])).length) Slot.unset).toArray = ls at hl ⊢
  have hl : lv_has ls 5 [(0, .ref a0), (1, .int a1)] := hl
  refine t_start (fun QQ hQ => ?_)
  refine lv_iload_n hx hb dX12_hoursOf_0 rfl (lv_at hl 1 rfl) ?_
  have J11 : ∀ (H : Heap) (locs : List Loc) (ls : Array Slot) (w11 : va_W) (p11_s0 : Int32), tW (dC, dI) tys κ B A s w11 H locs → Sm [] [69] κ ws w11 → 0 ≤ p11_s0.toInt → p11_s0.toInt ≤ 999 → lv_has ls 5 [(0, .ref a0), (1, .int a1)] → W p l e (headSpec (ws_u yX12_hoursOf cX12_hoursOf 5 (some .int)) ({ frames := 2, cells := 0, slots := 0, locals := 48 })).room s m ([.ref a0, .int a1] : List Value).toArray below meth c H locs 0 0 QQ (F0 m 11 ls [.int p11_s0]) := by
    intro H locs ls w11 p11_s0 hw hM l_p11_s0 h_p11_s0 hl
    refine lv_istore_n (lv' := [(2, .int p11_s0), (0, .ref a0), (1, .int a1)]) hx hb dX12_hoursOf_11 rfl hl (by decide) rfl (fun ls hl => ?_)
    refine lv_iconst (v := 0) hx hb dX12_hoursOf_12 (by decide) ?_
    refine lv_istore_n (lv' := [(3, .int 0), (2, .int p11_s0), (0, .ref a0), (1, .int a1)]) hx hb dX12_hoursOf_13 rfl hl (by decide) rfl (fun ls hl => ?_)
    have J14 : ∀ (n : Nat) (H : Heap) (locs : List Loc) (ls : Array Slot), (∃ (w14 : va_W) (p14_l2 : Int32) (p14_l3 : Int32), tW (dC, dI) tys κ B A s w14 H locs ∧ Sm [] [69] κ ws w14 ∧ (-2147483648) ≤ p14_l2.toInt ∧ p14_l2.toInt ≤ 999 ∧ 0 ≤ p14_l3.toInt ∧ p14_l3.toInt ≤ 6 ∧ lv_has ls 5 [(0, .ref a0), (1, .int a1), (2, .int p14_l2), (3, .int p14_l3)] ∧ (6 - p14_l3.toInt).toNat = n) → W p l e (headSpec (ws_u yX12_hoursOf cX12_hoursOf 5 (some .int)) ({ frames := 2, cells := 0, slots := 0, locals := 48 })).room s m ([.ref a0, .int a1] : List Value).toArray below meth c H locs 0 0 QQ (F0 m 14 ls []) := by
      refine loopT _ ?_
      intro n_14 H locs ls hI ih_14
      obtain ⟨w14, p14_l2, p14_l3, hw, hM, l_p14_l2, h_p14_l2, l_p14_l3, h_p14_l3, hl, hn_14⟩ := hI
      refine lv_iload_n hx hb dX12_hoursOf_14 rfl (lv_at hl 3 rfl) ?_
      refine lv_aload_n hx hb dX12_hoursOf_15 rfl (lv_at hl 0 rfl) ?_
      refine t_getr (k1 := 63) (ci := 12) (C := RX12) (T := TX12) (N := 38) hx hb hts iX12 hown hw k_a0 rfl rfl rfl 20 (by decide) (hts _ tw_1145) (fun _ h9 => h9) dX12_hoursOf_16 rfl (fun v16 k_v16 f_a0_X12_20 => ?_)
      refine lv_iconst (v := 5) hx hb dX12_hoursOf_19 (by decide) ?_
      refine t_iald hx hb hw k_v16 rfl rfl (by decide) (by decide) dX12_hoursOf_20 (fun v20 r_v20 s_v20 f_v16_M_said_5 => ?_)
      have l_v20 : 0 ≤ v20.toInt := by rw [iv_63_5] at r_v20; exact r_v20
      have h_v20 : v20.toInt ≤ 6 := by rw [iv_63_5] at s_v20; exact s_v20
      refine lv_icmp_ge (tgt := 93) hx hb dX12_hoursOf_21 (by decide) (fun c_21 => ?_) (fun c_21 => ?_)
      · simp only [fa_lt, fa_le, fa_eq] at c_21
        refine lv_iload_n hx hb dX12_hoursOf_93 rfl (lv_at hl 2 rfl) ?_
        rw [hQ]
        refine W.widen (k := 0) (n := 0) (Nat.le_refl _) (Nat.le_refl _) ?_
        exact W.iret (v := p14_l2) hx hb hr (fun t ht hW => ⟨⟨p14_l2, w14, rfl, ⟨(by omega), (by omega), hw.2.2.2.2, hM⟩, by rw [ht]; exact hw.2.1, va_K.moved hW.alike hw.1, hw.2.2.1⟩, hw.2.2.2.1.F ht⟩) hw.2.2.2.1.2.2 dX12_hoursOf_94
      · simp only [fa_lt, fa_le, fa_eq] at c_21
        refine lv_iload_n hx hb dX12_hoursOf_24 rfl (lv_at hl 1 rfl) ?_
        refine lv_iload_n hx hb dX12_hoursOf_25 rfl (lv_at hl 3 rfl) ?_
        refine t_calli (va_runS (As := [.int a1, .int p14_l3]) (rest := []) ⟨hx, hb, hml, hown, hts⟩ (t_X12_isOf l dC dI tys κ B w14 hw.2.2.2.2 a1 p14_l3 (by omega) (by omega) H.size) (va_cwS 2 hts (gUS tw_1637 tw_1638 tw_13 tw_1639) rfl rfl rfl (by decide +kernel) ⟨(Nat.le_of_ble_eq_true rfl), (Nat.le_of_ble_eq_true rfl)⟩) ⟨cPre.blind, cPre.use hw.2.1 hw.1 hw.2.2.1 hE⟩ rfl rfl hl.1 rfl (lv_room (Nat.le_of_ble_eq_true rfl)) dX12_hoursOf_26 ⟨(Nat.le_of_ble_eq_true rfl), (Nat.le_of_ble_eq_true rfl)⟩) hw hA (fun _ _ h => h.2.2.1) (fun v26 w_1 H locs hp hw => ?_)
        obtain ⟨l_v26, h_v26, _, hm⟩ := hp
        have hM := hM.trans hm (by decide) (by decide)
        have f_a0_X12_20 := hm.1 _ _ _ _ f_a0_X12_20 (by decide)
        have f_v16_M_said_5 := hm.elt k_v16 (by decide) f_v16_M_said_5
        have J87 : ∀ (H : Heap) (locs : List Loc) (ls : Array Slot) (w87 : va_W) (p87_l2 : Int32), tW (dC, dI) tys κ B A s w87 H locs → Sm [] [69] κ ws w87 → (-2147483648) ≤ p87_l2.toInt → p87_l2.toInt ≤ 999 → fld w87 a0 12 20 (.ref v16) → elt w87 v16 (5 : Int32).toInt.toNat v20 → lv_has ls 5 [(0, .ref a0), (1, .int a1), (2, .int p87_l2), (3, .int p14_l3)] → W p l e (headSpec (ws_u yX12_hoursOf cX12_hoursOf 5 (some .int)) ({ frames := 2, cells := 0, slots := 0, locals := 48 })).room s m ([.ref a0, .int a1] : List Value).toArray below meth c H locs 0 0 QQ (F0 m 87 ls []) := by
          intro H locs ls w87 p87_l2 hw hM l_p87_l2 h_p87_l2 f_a0_X12_20 f_v16_M_said_5 hl
          obtain ⟨v87, e_v87⟩ : ∃ y : Int32, y = p14_l3 + 1 := ⟨_, rfl⟩
          refine lv_iinc (v := v87) (lv' := [(3, .int v87), (0, .ref a0), (1, .int a1), (2, .int p87_l2)]) hx hb dX12_hoursOf_87 hl (k := 3) rfl e_v87.symm (by decide) rfl (fun ls hl => ?_)
          have e_v87 : v87.toInt = p14_l3.toInt + 1 := ad_i e_v87 rfl li_1 (by omega) (by omega)
          refine lv_goto (tgt := 14) hx hb dX12_hoursOf_90 (by decide) ?_
          exact ih_14 _ _ _ _ (by omega) ⟨w87, p87_l2, v87, hw, hM, (by omega), (by omega), (by omega), (by omega), (lv_sub hl [1, 2, 3, 0] rfl), rfl⟩
        refine lv_if_ne (tgt := 35) hx hb dX12_hoursOf_29 (by decide) (fun c_29 => ?_) (fun c_29 => ?_)
        · simp only [fa_lt, fa_le, fa_eq, li_0] at c_29
          refine lv_aload_n hx hb dX12_hoursOf_35 rfl (lv_at hl 0 rfl) ?_
          refine t_getr (k1 := 69) (ci := 12) (C := RX12) (T := TX12) (N := 38) hx hb hts iX12 hown hw k_a0 rfl rfl rfl 30 (by decide) (hts _ tw_1155) (fun _ h9 => h9) dX12_hoursOf_36 rfl (fun v36 k_v36 f_a0_X12_30 => ?_)
          refine lv_bipush (v := 6) hx hb dX12_hoursOf_39 (by decide) ?_
          refine lv_iload_n hx hb dX12_hoursOf_41 rfl (lv_at hl 1 rfl) ?_
          refine lv_imul hx hb dX12_hoursOf_42 ?_
          refine lv_topi (fun v42 e_v42 => ?_)
          have e_v42 : v42.toInt = 6 * a1.toInt := ml_i e_v42 li_6 rfl (by omega) (by omega)
          refine lv_iload_n hx hb dX12_hoursOf_43 rfl (lv_at hl 3 rfl) ?_
          refine lv_iadd hx hb dX12_hoursOf_44 ?_
          refine lv_topi (fun v44 e_v44 => ?_)
          have e_v44 : v44.toInt = v42.toInt + p14_l3.toInt := ad_i e_v44 rfl rfl (by omega) (by omega)
          refine lv_aload_n hx hb dX12_hoursOf_45 rfl (lv_at hl 0 rfl) ?_
          refine lv_iload_n hx hb dX12_hoursOf_46 rfl (lv_at hl 1 rfl) ?_
          refine lv_iload_n hx hb dX12_hoursOf_47 rfl (lv_at hl 3 rfl) ?_
          refine t_calli (va_runV (As := [.int a1, .int p14_l3]) (rest := [.int v44, .ref v36]) ⟨hx, hb, hml, hown, hts⟩ (t_X12_goneTill l dC dI tys κ B w_1 hw.2.2.2.2 a0 k_a0 a1 (by omega) (by omega) p14_l3 (by omega) (by omega) H.size) (cwV 2 hts (gUV tw_1680 tw_1682 ts_7_13 tw_13 tw_1683) rfl rfl rfl (by decide +kernel) ⟨(Nat.le_of_ble_eq_true rfl), (Nat.le_of_ble_eq_true rfl)⟩) ⟨cPre.blind, t_recv hw (ci := 12) k_a0 rfl rfl, cPre.use hw.2.1 hw.1 hw.2.2.1 hE⟩ rfl rfl hl.1 rfl (lv_room (Nat.le_of_ble_eq_true rfl)) dX12_hoursOf_48 ⟨(Nat.le_of_ble_eq_true rfl), (Nat.le_of_ble_eq_true rfl)⟩) hw hA (fun _ _ h => h.1) (fun v48 w_2 H locs hp hw => ?_)
          obtain ⟨_, hm⟩ := hp
          have l_v48 := i32_lo v48
          have h_v48 := i32_hi v48
          have hM := hM.trans hm (by decide) (by decide)
          have f_a0_X12_20 := hm.1 _ _ _ _ f_a0_X12_20 (by decide)
          have f_v16_M_said_5 := hm.elt k_v16 (by decide) f_v16_M_said_5
          have f_a0_X12_30 := hm.1 _ _ _ _ f_a0_X12_30 (by decide)
          refine t_iast hx hb hw k_v36 rfl rfl (by omega) (show v44.toInt < 384 by omega) (i32_lo _) (i32_hi _) dX12_hoursOf_51 (fun w_3 H locs hw u => ?_)
          have hM := hM.up3 u k_v36 (by decide)
          have f_a0_X12_20 := u.1 _ _ _ _ f_a0_X12_20
          have f_v16_M_said_5 := u.2.2.1 _ _ _ f_v16_M_said_5 (Or.inl (ne_k k_v16 k_v36 (by decide)))
          have f_a0_X12_30 := u.1 _ _ _ _ f_a0_X12_30
          refine lv_aload_n hx hb dX12_hoursOf_52 rfl (lv_at hl 0 rfl) ?_
          refine t_getk (ci := 12) (C := RX12) (T := TX12) (N := 38) hx hb hts iX12 hown hw rfl 30 (by decide) (hts _ tw_1155) (fun _ h9 => h9) dX12_hoursOf_53 f_a0_X12_30 ?_
          refine lv_bipush (v := 6) hx hb dX12_hoursOf_56 (by decide) ?_
          refine lv_iload_n hx hb dX12_hoursOf_58 rfl (lv_at hl 1 rfl) ?_
          refine lv_imul hx hb dX12_hoursOf_59 ?_
          refine lv_topi (fun v59 e_v59 => ?_)
          have e_v59 : v59.toInt = 6 * a1.toInt := ml_i e_v59 li_6 rfl (by omega) (by omega)
          refine lv_iload_n hx hb dX12_hoursOf_60 rfl (lv_at hl 3 rfl) ?_
          refine lv_iadd hx hb dX12_hoursOf_61 ?_
          refine lv_topi (fun v61 e_v61 => ?_)
          have e_v61 : v61.toInt = v59.toInt + p14_l3.toInt := ad_i e_v61 rfl rfl (by omega) (by omega)
          refine t_iald hx hb hw k_v36 rfl rfl (by omega) (show v61.toInt < 384 by omega) dX12_hoursOf_62 (fun v62 r_v62 s_v62 q_v62 => ?_)
          have l_v62 := i32_lo v62
          have h_v62 := i32_hi v62
          refine lv_aload_n hx hb dX12_hoursOf_63 rfl (lv_at hl 0 rfl) ?_
          refine lv_iload_n hx hb dX12_hoursOf_64 rfl (lv_at hl 3 rfl) ?_
          refine lv_iconst (v := 1) hx hb dX12_hoursOf_65 (by decide) ?_
          refine lv_iadd hx hb dX12_hoursOf_66 ?_
          refine lv_topi (fun v66 e_v66 => ?_)
          have e_v66 : v66.toInt = p14_l3.toInt + 1 := ad_i e_v66 rfl li_1 (by omega) (by omega)
          refine lv_iconst (v := 0) hx hb dX12_hoursOf_67 (by decide) ?_
          refine t_calli (va_runV (As := [.int v66, .int 0]) (rest := [.int v62]) ⟨hx, hb, hml, hown, hts⟩ (t_X12_farOf l dC dI tys κ B w_3 hw.2.2.2.2 a0 k_a0 v66 (by omega) (by omega) 0 (by decide) (by decide) H.size) (cwV 2 hts (gUV tw_1428 tw_1430 ts_5_4 tw_13 tw_1431) rfl rfl rfl (by decide +kernel) ⟨(Nat.le_of_ble_eq_true rfl), (Nat.le_of_ble_eq_true rfl)⟩) ⟨cPre.blind, t_recv hw (ci := 12) k_a0 rfl rfl, cPre.use hw.2.1 hw.1 hw.2.2.1 hE⟩ rfl rfl hl.1 rfl (lv_room (Nat.le_of_ble_eq_true rfl)) dX12_hoursOf_68 ⟨(Nat.le_of_ble_eq_true rfl), (Nat.le_of_ble_eq_true rfl)⟩) hw hA (fun _ _ h => h.1) (fun v68 w_4 H locs hp hw => ?_)
          obtain ⟨_, hm⟩ := hp
          have l_v68 := i32_lo v68
          have h_v68 := i32_hi v68
          have hM := hM.trans hm (by decide) (by decide)
          have f_a0_X12_20 := hm.1 _ _ _ _ f_a0_X12_20 (by decide)
          have f_v16_M_said_5 := hm.elt k_v16 (by decide) f_v16_M_said_5
          have f_a0_X12_30 := hm.1 _ _ _ _ f_a0_X12_30 (by decide)
          refine lv_iadd hx hb dX12_hoursOf_71 ?_
          refine lv_topi (fun v71 e_v71 => ?_)
          have l_v71 := i32_lo v71
          have h_v71 := i32_hi v71
          refine lv_istore (lv' := [(4, .int v71), (0, .ref a0), (1, .int a1), (2, .int p14_l2), (3, .int p14_l3)]) hx hb dX12_hoursOf_72 hl (by decide) rfl (fun ls hl => ?_)
          refine lv_iload hx hb dX12_hoursOf_74 (lv_at hl 0 rfl) ?_
          refine lv_iload_n hx hb dX12_hoursOf_76 rfl (lv_at hl 3 rfl) ?_
          have J86 : ∀ (H : Heap) (locs : List Loc) (ls : Array Slot) (w86 : va_W) (p86_s0 : Int32), tW (dC, dI) tys κ B A s w86 H locs → Sm [] [69] κ ws w86 → (-2147483648) ≤ p86_s0.toInt → p86_s0.toInt ≤ 999 → fld w86 a0 12 20 (.ref v16) → fld w86 a0 12 30 (.ref v36) → elt w86 v16 (5 : Int32).toInt.toNat v20 → lv_has ls 5 [(0, .ref a0), (1, .int a1), (2, .int p14_l2), (3, .int p14_l3), (4, .int v71)] → W p l e (headSpec (ws_u yX12_hoursOf cX12_hoursOf 5 (some .int)) ({ frames := 2, cells := 0, slots := 0, locals := 48 })).room s m ([.ref a0, .int a1] : List Value).toArray below meth c H locs 0 0 QQ (F0 m 86 ls [.int p86_s0]) := by
            intro H locs ls w86 p86_s0 hw hM l_p86_s0 h_p86_s0 f_a0_X12_20 f_a0_X12_30 f_v16_M_said_5 hl
            refine lv_istore_n (lv' := [(2, .int p86_s0), (0, .ref a0), (1, .int a1), (3, .int p14_l3), (4, .int v71)]) hx hb dX12_hoursOf_86 rfl hl (by decide) rfl (fun ls hl => ?_)
            exact J87 _ _ _ w86 p86_s0 hw hM (by omega) (by omega) f_a0_X12_20 f_v16_M_said_5 (lv_sub hl [1, 2, 0, 3] rfl)
          refine lv_icmp_ge (tgt := 85) hx hb dX12_hoursOf_77 (by decide) (fun c_77 => ?_) (fun c_77 => ?_)
          · simp only [fa_lt, fa_le, fa_eq] at c_77
            refine lv_iload_n hx hb dX12_hoursOf_85 rfl (lv_at hl 3 rfl) ?_
            exact J86 _ _ _ w_4 p14_l2 hw hM (by omega) (by omega) f_a0_X12_20 f_a0_X12_30 f_v16_M_said_5 (lv_sub hl [1, 2, 3, 4, 0] rfl)
          · simp only [fa_lt, fa_le, fa_eq] at c_77
            refine lv_iload hx hb dX12_hoursOf_80 (lv_at hl 0 rfl) ?_
            refine lv_goto (tgt := 86) hx hb dX12_hoursOf_82 (by decide) ?_
            exact J86 _ _ _ w_4 v71 hw hM (by omega) (by omega) f_a0_X12_20 f_a0_X12_30 f_v16_M_said_5 (lv_sub hl [1, 2, 3, 4, 0] rfl)
        · simp only [fa_lt, fa_le, fa_eq, li_0] at c_29
          refine lv_goto (tgt := 87) hx hb dX12_hoursOf_32 (by decide) ?_
          exact J87 _ _ _ w_1 p14_l2 hw hM (by omega) (by omega) f_a0_X12_20 f_v16_M_said_5 (lv_sub hl [0, 1, 2, 3] rfl)
    exact J14 _ _ _ _ ⟨w11, p11_s0, 0, hw, hM, (by omega), (by omega), (by decide), (by decide), (lv_sub hl [2, 3, 1, 0] rfl), rfl⟩
  refine lv_if_ne (tgt := 8) hx hb dX12_hoursOf_1 (by decide) (fun c_1 => ?_) (fun c_1 => ?_)
  · simp only [fa_lt, fa_le, fa_eq, li_0] at c_1
    refine lv_sipush (v := 999) hx hb dX12_hoursOf_8 (by decide) ?_
    exact J11 _ _ _ ws 999 hw hM (by decide) (by decide) (lv_sub hl [0, 1] rfl)
  · simp only [fa_lt, fa_le, fa_eq, li_0] at c_1
    refine lv_iconst (v := 0) hx hb dX12_hoursOf_4 (by decide) ?_
    refine lv_goto (tgt := 11) hx hb dX12_hoursOf_5 (by decide) ?_
    exact J11 _ _ _ ws 0 hw hM (by decide) (by decide) (lv_sub hl [0, 1] rfl)
set_option maxHeartbeats 4000000 in
set_option maxRecDepth 100000 in
theorem t_X12_image (l : Launch) (dC : Nat → ClassId) (dI : Nat → Nat → Nat) (tys : List (ClassId × FieldType)) (κ : tK) (B : Nat) (ws : va_W) (hT : Ty κ tys B ws) (a0 : Nat) (k_a0 : κ a0 = some 12) (a1 : Int32) (f0 : Nat) (k_f0 : κ f0 = some 63) (f_a0_X12_20 : fld ws a0 12 20 (.ref f0)) (f1 : Int32) (l_f1 : 0 ≤ f1.toInt) (h_f1 : f1.toInt ≤ 999) (f_f0_M_said_10 : elt ws f0 (10 : Int32).toInt.toNat f1) (sz : Nat) : Met l yX12_image (ws_u yX12_image cX12_image 3 (some .int)) ({ frames := 1, cells := 0, slots := 0, locals := 25 }) (va_Pc [.ref a0, .int a1] (cPre (dC, dI) tys ws sz)) (va_Qi (fun (r : Int32) (w : va_W) => (-1) ≤ r.toInt ∧ r.toInt ≤ 999 ∧ Ty κ tys B w ∧ Sm [] [72, 73, 74, 75] κ ws w) (fun w t => cPost (dC, dI) tys w (va_A ws sz) t) (va_A ws sz)) 0 0 (va_A ws sz) := by
  refine Met.ofW (cc := cX12_image) (maxL := 3) (ret := (some .int)) (by decide) rfl ?_
  intro p e s m args below meth c s₁ B0 hml hv
  obtain ⟨rfl, hsz, hP, hK, hD0, hE⟩ := hv
  have hx := B0.exec
  have hb := B0.bytes
  have hr := B0.returns
  have hts0 := atoms_spec (ws := ws_u yX12_image cX12_image 3 (some .int)) B0.pre
  have hts : ∀ w ∈ gT, w.before _ s = true := fun w h => hts0 w (List.mem_cons_of_mem _ h)
  have hown : s.vm.findClass RX12 = some m.cls := findClass_of_methodNamed B0.named
  have hlocks := B0.notSynchronized
  subst hsz
  have hD := hD0.self (sz := s.heap.size)
  generalize hAe : va_A ws s.heap.size = A at hD ⊢
  have hA : ∀ q : Nat, s.heap.size ≤ q → A q := fun q h => by rw [← hAe]; exact Or.inr h
  have hw : tW (dC, dI) tys κ B A s ws s.heap [] := ⟨hK, hP, hD, va_S.rf, hT⟩
  have hM : Sm [] [72, 73, 74, 75] κ ws ws := Sm.rf
  clear hP hK hD hD0 hts0
  have l_a1 := i32_lo a1
  have h_a1 := i32_hi a1
  have hl := lv_entry ([.ref a0, .int a1]) (n := 3) (Nat.le_of_ble_eq_true rfl)
  rw [lg_entry_eq]
  generalize (lg_sl ([.ref a0, .int a1]) ++ List.replicate (3 - (lg_sl ([.ref a0, .int a1])).length) Slot.unset).toArray = ls at hl ⊢
  have hl : lv_has ls 3 [(0, .ref a0), (1, .int a1)] := hl
  refine t_start (fun QQ hQ => ?_)
  refine lv_iload_n hx hb dX12_image_0 rfl (lv_at hl 1 rfl) ?_
  refine lv_i2l hx hb dX12_image_1 rfl ?_
  refine lv_topl (fun v1 e_v1 => ?_)
  have t_v1 : v1.toInt = a1.toInt := by rw [e_v1, Int32.toInt_toInt64]
  refine lv_lconst (v := 0) hx hb dX12_image_2 (by decide) ?_
  obtain ⟨v2, e_v2⟩ : ∃ y : Int64, y = 0 := ⟨_, rfl⟩
  refine W.eq (g2 := F0 m 3 ls [.long v2, .long v1]) (by rw [e_v2]) ?_
  have t_v2 : v2.toInt = 0 := by rw [e_v2]; decide
  refine lv_ldc2 (v := 3) hx hb hown (hts _ tw_1452) dX12_image_3 ?_
  refine lv_topl (fun v3 e_v3 => ?_)
  have t_v3 : v3.toInt = 3 := by rw [e_v3]; decide
  refine t_calli (va_runS (As := [.long v1, .long v2, .long v3]) (rest := []) ⟨hx, hb, hml, hown, hts⟩ (t_X12_in l dC dI tys κ B ws hw.2.2.2.2 v1 v2 v3 s.heap.size) (va_cwS 3 hts (gUS tw_1316 tw_1317 tw_13 tw_1318) rfl rfl rfl (by decide +kernel) ⟨(Nat.le_of_ble_eq_true rfl), (Nat.le_of_ble_eq_true rfl)⟩) ⟨cPre.blind, cPre.use hw.2.1 hw.1 hw.2.2.1 hE⟩ rfl rfl hl.1 rfl (lv_room (Nat.le_of_ble_eq_true rfl)) dX12_image_6 ⟨(Nat.le_of_ble_eq_true rfl), (Nat.le_of_ble_eq_true rfl)⟩) hw hA (fun _ _ h => h.2.2.1) (fun v6 w_1 H locs hp hw => ?_)
  obtain ⟨l_v6, h_v6, _, hm, x_v6_0⟩ := hp
  have hM := hM.trans hm (by decide) (by decide)
  have f_a0_X12_20 := hm.1 _ _ _ _ f_a0_X12_20 (by decide)
  have f_f0_M_said_10 := hm.elt k_f0 (by decide) f_f0_M_said_10
  refine lv_if_ne (tgt := 14) hx hb dX12_image_9 (by decide) (fun c_9 => ?_) (fun c_9 => ?_)
  · simp only [fa_lt, fa_le, fa_eq, li_0] at c_9
    refine lv_aload_n hx hb dX12_image_14 rfl (lv_at hl 0 rfl) ?_
    refine t_getr (k1 := 75) (ci := 12) (C := RX12) (T := TX12) (N := 38) hx hb hts iX12 hown hw k_a0 rfl rfl rfl 37 (by decide) (hts _ tw_1162) (fun _ h9 => h9) dX12_image_15 rfl (fun v15 k_v15 f_a0_X12_37 => ?_)
    refine lv_iload_n hx hb dX12_image_18 rfl (lv_at hl 1 rfl) ?_
    refine lv_iconst (v := 1) hx hb dX12_image_19 (by decide) ?_
    refine t_zast hx hb hw k_v15 rfl rfl (by omega) (show a1.toInt < 4 by omega) (fun _ => rfl) dX12_image_20 (fun w_2 H locs hw u => ?_)
    have hM := hM.up3 u k_v15 (by decide)
    have f_a0_X12_20 := u.1 _ _ _ _ f_a0_X12_20
    have f_f0_M_said_10 := u.2.2.1 _ _ _ f_f0_M_said_10 (Or.inl (ne_k k_f0 k_v15 (by decide)))
    have f_a0_X12_37 := u.1 _ _ _ _ f_a0_X12_37
    refine lv_aload_n hx hb dX12_image_21 rfl (lv_at hl 0 rfl) ?_
    refine t_getr (k1 := 73) (ci := 12) (C := RX12) (T := TX12) (N := 38) hx hb hts iX12 hown hw k_a0 rfl rfl rfl 35 (by decide) (hts _ tw_1160) (fun _ h9 => h9) dX12_image_22 rfl (fun v22 k_v22 f_a0_X12_35 => ?_)
    refine lv_iload_n hx hb dX12_image_25 rfl (lv_at hl 1 rfl) ?_
    refine lv_aload_n hx hb dX12_image_26 rfl (lv_at hl 0 rfl) ?_
    refine t_geti (ci := 12) (C := RX12) (T := TX12) (N := 38) hx hb hts iX12 hown hw k_a0 rfl rfl rfl 21 (by decide) (hts _ tw_1146) (fun _ h9 => h9) dX12_image_27 rfl (fun v27 l_v27 h_v27 f_a0_X12_21 => ?_)
    have l_v27 : (-1) ≤ v27.toInt := l_v27
    have h_v27 : v27.toInt ≤ 5 := h_v27
    refine t_iast hx hb hw k_v22 rfl rfl (by omega) (show a1.toInt < 4 by omega) (show (-1) ≤ v27.toInt by omega) (show v27.toInt ≤ 5 by omega) dX12_image_30 (fun w_3 H locs hw u => ?_)
    have hM := hM.up3 u k_v22 (by decide)
    have f_a0_X12_20 := u.1 _ _ _ _ f_a0_X12_20
    have f_f0_M_said_10 := u.2.2.1 _ _ _ f_f0_M_said_10 (Or.inl (ne_k k_f0 k_v22 (by decide)))
    have f_a0_X12_37 := u.1 _ _ _ _ f_a0_X12_37
    have f_a0_X12_35 := u.1 _ _ _ _ f_a0_X12_35
    have f_a0_X12_21 := u.1 _ _ _ _ f_a0_X12_21
    refine lv_aload_n hx hb dX12_image_31 rfl (lv_at hl 0 rfl) ?_
    refine t_getr (k1 := 74) (ci := 12) (C := RX12) (T := TX12) (N := 38) hx hb hts iX12 hown hw k_a0 rfl rfl rfl 36 (by decide) (hts _ tw_1161) (fun _ h9 => h9) dX12_image_32 rfl (fun v32 k_v32 f_a0_X12_36 => ?_)
    refine lv_iload_n hx hb dX12_image_35 rfl (lv_at hl 1 rfl) ?_
    refine lv_aload_n hx hb dX12_image_36 rfl (lv_at hl 0 rfl) ?_
    refine t_geti (ci := 12) (C := RX12) (T := TX12) (N := 38) hx hb hts iX12 hown hw k_a0 rfl rfl rfl 22 (by decide) (hts _ tw_1147) (fun _ h9 => h9) dX12_image_37 rfl (fun v37 l_v37 h_v37 f_a0_X12_22 => ?_)
    have l_v37 : (-2147483648) ≤ v37.toInt := l_v37
    have h_v37 : v37.toInt ≤ 2147483647 := h_v37
    refine t_iast hx hb hw k_v32 rfl rfl (by omega) (show a1.toInt < 4 by omega) (i32_lo _) (i32_hi _) dX12_image_40 (fun w_4 H locs hw u => ?_)
    have hM := hM.up3 u k_v32 (by decide)
    have f_a0_X12_20 := u.1 _ _ _ _ f_a0_X12_20
    have f_f0_M_said_10 := u.2.2.1 _ _ _ f_f0_M_said_10 (Or.inl (ne_k k_f0 k_v32 (by decide)))
    have f_a0_X12_37 := u.1 _ _ _ _ f_a0_X12_37
    have f_a0_X12_35 := u.1 _ _ _ _ f_a0_X12_35
    have f_a0_X12_21 := u.1 _ _ _ _ f_a0_X12_21
    have f_a0_X12_36 := u.1 _ _ _ _ f_a0_X12_36
    have f_a0_X12_22 := u.1 _ _ _ _ f_a0_X12_22
    refine lv_iconst (v := 0) hx hb dX12_image_41 (by decide) ?_
    refine lv_istore_n (lv' := [(2, .int 0), (0, .ref a0), (1, .int a1)]) hx hb dX12_image_42 rfl hl (by decide) rfl (fun ls hl => ?_)
    have J43 : ∀ (n : Nat) (H : Heap) (locs : List Loc) (ls : Array Slot), (∃ (w43 : va_W) (p43_l2 : Int32), tW (dC, dI) tys κ B A s w43 H locs ∧ Sm [] [72, 73, 74, 75] κ ws w43 ∧ 0 ≤ p43_l2.toInt ∧ p43_l2.toInt ≤ 306 ∧ fld w43 a0 12 20 (.ref f0) ∧ fld w43 a0 12 21 (.int v27) ∧ fld w43 a0 12 22 (.int v37) ∧ fld w43 a0 12 35 (.ref v22) ∧ fld w43 a0 12 36 (.ref v32) ∧ fld w43 a0 12 37 (.ref v15) ∧ elt w43 f0 (10 : Int32).toInt.toNat f1 ∧ lv_has ls 3 [(0, .ref a0), (1, .int a1), (2, .int p43_l2)] ∧ (306 - p43_l2.toInt).toNat = n) → W p l e (headSpec (ws_u yX12_image cX12_image 3 (some .int)) ({ frames := 1, cells := 0, slots := 0, locals := 25 })).room s m ([.ref a0, .int a1] : List Value).toArray below meth c H locs 0 0 QQ (F0 m 43 ls []) := by
      refine loopT _ ?_
      intro n_43 H locs ls hI ih_43
      obtain ⟨w43, p43_l2, hw, hM, l_p43_l2, h_p43_l2, f_a0_X12_20, f_a0_X12_21, f_a0_X12_22, f_a0_X12_35, f_a0_X12_36, f_a0_X12_37, f_f0_M_said_10, hl, hn_43⟩ := hI
      refine lv_iload_n hx hb dX12_image_43 rfl (lv_at hl 2 rfl) ?_
      refine lv_sipush (v := 306) hx hb dX12_image_44 (by decide) ?_
      refine lv_icmp_ge (tgt := 74) hx hb dX12_image_47 (by decide) (fun c_47 => ?_) (fun c_47 => ?_)
      · simp only [fa_lt, fa_le, fa_eq, li_306] at c_47
        refine lv_aload_n hx hb dX12_image_74 rfl (lv_at hl 0 rfl) ?_
        refine t_getk (ci := 12) (C := RX12) (T := TX12) (N := 38) hx hb hts iX12 hown hw rfl 20 (by decide) (hts _ tw_1145) (fun _ h9 => h9) dX12_image_75 f_a0_X12_20 ?_
        refine lv_bipush (v := 10) hx hb dX12_image_78 (by decide) ?_
        refine t_ialdk hx hb hw k_f0 rfl rfl (by decide) (by decide) f_f0_M_said_10 dX12_image_80 ?_
        rw [hQ]
        refine W.widen (k := 0) (n := 0) (Nat.le_refl _) (Nat.le_refl _) ?_
        exact W.iret (v := f1) hx hb hr (fun t ht hW => ⟨⟨f1, w43, rfl, ⟨(by omega), (by omega), hw.2.2.2.2, hM⟩, by rw [ht]; exact hw.2.1, va_K.moved hW.alike hw.1, hw.2.2.1⟩, hw.2.2.2.1.F ht⟩) hw.2.2.2.1.2.2 dX12_image_81
      · simp only [fa_lt, fa_le, fa_eq, li_306] at c_47
        refine lv_aload_n hx hb dX12_image_50 rfl (lv_at hl 0 rfl) ?_
        refine t_getr (k1 := 72) (ci := 12) (C := RX12) (T := TX12) (N := 38) hx hb hts iX12 hown hw k_a0 rfl rfl rfl 34 (by decide) (hts _ tw_1159) (fun _ h9 => h9) dX12_image_51 rfl (fun v51 k_v51 f_a0_X12_34 => ?_)
        refine lv_sipush (v := 306) hx hb dX12_image_54 (by decide) ?_
        refine lv_iload_n hx hb dX12_image_57 rfl (lv_at hl 1 rfl) ?_
        refine lv_imul hx hb dX12_image_58 ?_
        refine lv_topi (fun v58 e_v58 => ?_)
        have e_v58 : v58.toInt = 306 * a1.toInt := ml_i e_v58 li_306 rfl (by omega) (by omega)
        refine lv_iload_n hx hb dX12_image_59 rfl (lv_at hl 2 rfl) ?_
        refine lv_iadd hx hb dX12_image_60 ?_
        refine lv_topi (fun v60 e_v60 => ?_)
        have e_v60 : v60.toInt = v58.toInt + p43_l2.toInt := ad_i e_v60 rfl rfl (by omega) (by omega)
        refine lv_aload_n hx hb dX12_image_61 rfl (lv_at hl 0 rfl) ?_
        refine t_getk (ci := 12) (C := RX12) (T := TX12) (N := 38) hx hb hts iX12 hown hw rfl 20 (by decide) (hts _ tw_1145) (fun _ h9 => h9) dX12_image_62 f_a0_X12_20 ?_
        refine lv_iload_n hx hb dX12_image_65 rfl (lv_at hl 2 rfl) ?_
        refine t_iald hx hb hw k_f0 rfl rfl (by omega) (show p43_l2.toInt < 306 by omega) dX12_image_66 (fun v66 r_v66 s_v66 q_v66 => ?_)
        have l_v66 := i32_lo v66
        have h_v66 := i32_hi v66
        have hs_v60 : (aiv B 72 v60.toInt.toNat).1 ≤ v66.toInt ∧ v66.toInt ≤ (aiv B 72 v60.toInt.toNat).2 := by
          rw [aiv_said] at r_v66 s_v66
          rw [aiv_images, show v60.toInt.toNat % 306 = p43_l2.toInt.toNat by omega]
          exact ivS_down r_v66 s_v66 (fun hz => by rw [hz] at q_v66; rw [elt_eq hw.2.2.1 q_v66 f_f0_M_said_10]; omega)
        refine t_iast hx hb hw k_v51 rfl rfl (by omega) (show v60.toInt < 1224 by omega) hs_v60.1 hs_v60.2 dX12_image_67 (fun w_5 H locs hw u => ?_)
        have hM := hM.up3 u k_v51 (by decide)
        have f_a0_X12_20 := u.1 _ _ _ _ f_a0_X12_20
        have f_a0_X12_21 := u.1 _ _ _ _ f_a0_X12_21
        have f_a0_X12_22 := u.1 _ _ _ _ f_a0_X12_22
        have f_a0_X12_35 := u.1 _ _ _ _ f_a0_X12_35
        have f_a0_X12_36 := u.1 _ _ _ _ f_a0_X12_36
        have f_a0_X12_37 := u.1 _ _ _ _ f_a0_X12_37
        have f_f0_M_said_10 := u.2.2.1 _ _ _ f_f0_M_said_10 (Or.inl (ne_k k_f0 k_v51 (by decide)))
        have f_a0_X12_34 := u.1 _ _ _ _ f_a0_X12_34
        obtain ⟨v68, e_v68⟩ : ∃ y : Int32, y = p43_l2 + 1 := ⟨_, rfl⟩
        refine lv_iinc (v := v68) (lv' := [(2, .int v68), (0, .ref a0), (1, .int a1)]) hx hb dX12_image_68 hl (k := 2) rfl e_v68.symm (by decide) rfl (fun ls hl => ?_)
        have e_v68 : v68.toInt = p43_l2.toInt + 1 := ad_i e_v68 rfl li_1 (by omega) (by omega)
        refine lv_goto (tgt := 43) hx hb dX12_image_71 (by decide) ?_
        exact ih_43 _ _ _ _ (by omega) ⟨w_5, v68, hw, hM, (by omega), (by omega), f_a0_X12_20, f_a0_X12_21, f_a0_X12_22, f_a0_X12_35, f_a0_X12_36, f_a0_X12_37, f_f0_M_said_10, (lv_sub hl [1, 2, 0] rfl), rfl⟩
    exact J43 _ _ _ _ ⟨w_4, 0, hw, hM, (by decide), (by decide), f_a0_X12_20, f_a0_X12_21, f_a0_X12_22, f_a0_X12_35, f_a0_X12_36, f_a0_X12_37, f_f0_M_said_10, (lv_sub hl [1, 2, 0] rfl), rfl⟩
  · simp only [fa_lt, fa_le, fa_eq, li_0] at c_9
    refine lv_iconst (v := (-1)) hx hb dX12_image_12 (by decide) ?_
    rw [hQ]
    refine W.widen (k := 0) (n := 0) (Nat.le_refl _) (Nat.le_refl _) ?_
    exact W.iret (v := (-1)) hx hb hr (fun t ht hW => ⟨⟨(-1), w_1, rfl, ⟨(by decide), (by decide), hw.2.2.2.2, hM⟩, by rw [ht]; exact hw.2.1, va_K.moved hW.alike hw.1, hw.2.2.1⟩, hw.2.2.2.1.F ht⟩) hw.2.2.2.1.2.2 dX12_image_13
set_option maxHeartbeats 4000000 in
set_option maxRecDepth 100000 in
theorem t_X12_isRest (l : Launch) (dC : Nat → ClassId) (dI : Nat → Nat → Nat) (tys : List (ClassId × FieldType)) (κ : tK) (B : Nat) (ws : va_W) (hT : Ty κ tys B ws) (a0 : Nat) (k_a0 : κ a0 = some 12) (a1 : Int32) (l_a1 : 0 ≤ a1.toInt) (h_a1 : a1.toInt ≤ 5) (a2 : Int32) (l_a2 : 0 ≤ a2.toInt) (h_a2 : a2.toInt ≤ 5) (a3 : Int32) (l_a3 : 0 ≤ a3.toInt) (h_a3 : a3.toInt ≤ 4) (a4 : Int32) (l_a4 : 0 ≤ a4.toInt) (h_a4 : a4.toInt ≤ 4) (sz : Nat) : Met l yX12_isRest (ws_u yX12_isRest cX12_isRest 6 (some .boolean)) ({ frames := 1, cells := 0, slots := 0, locals := 23 }) (va_Pc [.ref a0, .int a1, .int a2, .int a3, .int a4] (cPre (dC, dI) tys ws sz)) (va_Qi (fun (r : Int32) (w : va_W) => 0 ≤ r.toInt ∧ r.toInt ≤ 1 ∧ Ty κ tys B w ∧ Sm [] [] κ ws w) (fun w t => cPost (dC, dI) tys w (va_A ws sz) t) (va_A ws sz)) 0 0 (va_A ws sz) := by
  refine Met.ofW (cc := cX12_isRest) (maxL := 6) (ret := (some .boolean)) (by decide) rfl ?_
  intro p e s m args below meth c s₁ B0 hml hv
  obtain ⟨rfl, hsz, hP, hK, hD0, hE⟩ := hv
  have hx := B0.exec
  have hb := B0.bytes
  have hr := B0.returns
  have hts0 := atoms_spec (ws := ws_u yX12_isRest cX12_isRest 6 (some .boolean)) B0.pre
  have hts : ∀ w ∈ gT, w.before _ s = true := fun w h => hts0 w (List.mem_cons_of_mem _ h)
  have hown : s.vm.findClass RX12 = some m.cls := findClass_of_methodNamed B0.named
  have hlocks := B0.notSynchronized
  subst hsz
  have hD := hD0.self (sz := s.heap.size)
  generalize hAe : va_A ws s.heap.size = A at hD ⊢
  have hA : ∀ q : Nat, s.heap.size ≤ q → A q := fun q h => by rw [← hAe]; exact Or.inr h
  have hw : tW (dC, dI) tys κ B A s ws s.heap [] := ⟨hK, hP, hD, va_S.rf, hT⟩
  have hM : Sm [] [] κ ws ws := Sm.rf
  clear hP hK hD hD0 hts0
  have hl := lv_entry ([.ref a0, .int a1, .int a2, .int a3, .int a4]) (n := 6) (Nat.le_of_ble_eq_true rfl)
  rw [lg_entry_eq]
  generalize (lg_sl ([.ref a0, .int a1, .int a2, .int a3, .int a4]) ++ List.replicate (6 - (lg_sl ([.ref a0, .int a1, .int a2, .int a3, .int a4])).length) Slot.unset).toArray = ls at hl ⊢
  have hl : lv_has ls 6 [(0, .ref a0), (1, .int a1), (2, .int a2), (3, .int a3), (4, .int a4)] := hl
  refine t_start (fun QQ hQ => ?_)
  refine lv_iconst (v := 0) hx hb dX12_isRest_0 (by decide) ?_
  refine lv_istore (lv' := [(5, .int 0), (0, .ref a0), (1, .int a1), (2, .int a2), (3, .int a3), (4, .int a4)]) hx hb dX12_isRest_1 hl (by decide) rfl (fun ls hl => ?_)
  have J3 : ∀ (n : Nat) (H : Heap) (locs : List Loc) (ls : Array Slot), (∃ (w3 : va_W) (p3_l5 : Int32), tW (dC, dI) tys κ B A s w3 H locs ∧ Sm [] [] κ ws w3 ∧ 0 ≤ p3_l5.toInt ∧ p3_l5.toInt ≤ 5 ∧ lv_has ls 6 [(0, .ref a0), (1, .int a1), (2, .int a2), (3, .int a3), (4, .int a4), (5, .int p3_l5)] ∧ (5 - p3_l5.toInt).toNat = n) → W p l e (headSpec (ws_u yX12_isRest cX12_isRest 6 (some .boolean)) ({ frames := 1, cells := 0, slots := 0, locals := 23 })).room s m ([.ref a0, .int a1, .int a2, .int a3, .int a4] : List Value).toArray below meth c H locs 0 0 QQ (F0 m 3 ls []) := by
    refine loopT _ ?_
    intro n_3 H locs ls hI ih_3
    obtain ⟨w3, p3_l5, hw, hM, l_p3_l5, h_p3_l5, hl, hn_3⟩ := hI
    refine lv_iload hx hb dX12_isRest_3 (lv_at hl 5 rfl) ?_
    refine lv_iconst (v := 5) hx hb dX12_isRest_5 (by decide) ?_
    refine lv_icmp_ge (tgt := 75) hx hb dX12_isRest_6 (by decide) (fun c_6 => ?_) (fun c_6 => ?_)
    · simp only [fa_lt, fa_le, fa_eq, li_5] at c_6
      refine lv_iconst (v := 1) hx hb dX12_isRest_75 (by decide) ?_
      rw [hQ]
      refine W.widen (k := 0) (n := 0) (Nat.le_refl _) (Nat.le_refl _) ?_
      exact W.zret (v := 1) hx hb hr rfl (fun t ht hW => ⟨⟨1, w3, rfl, ⟨(by decide), (by decide), hw.2.2.2.2, hM⟩, by rw [ht]; exact hw.2.1, va_K.moved hW.alike hw.1, hw.2.2.1⟩, hw.2.2.2.1.F ht⟩) hw.2.2.2.1.2.2 dX12_isRest_76
    · simp only [fa_lt, fa_le, fa_eq, li_5] at c_6
      refine lv_aload_n hx hb dX12_isRest_9 rfl (lv_at hl 0 rfl) ?_
      refine lv_iload_n hx hb dX12_isRest_10 rfl (lv_at hl 1 rfl) ?_
      refine lv_iload hx hb dX12_isRest_11 (lv_at hl 5 rfl) ?_
      refine lv_iconst (v := 5) hx hb dX12_isRest_13 (by decide) ?_
      refine lv_iload hx hb dX12_isRest_14 (lv_at hl 5 rfl) ?_
      refine lv_imul hx hb dX12_isRest_16 ?_
      refine lv_topi (fun v16 e_v16 => ?_)
      have e_v16 : v16.toInt = 5 * p3_l5.toInt := ml_i e_v16 li_5 rfl (by omega) (by omega)
      refine lv_iload hx hb dX12_isRest_17 (lv_at hl 4 rfl) ?_
      refine lv_iadd hx hb dX12_isRest_19 ?_
      refine lv_topi (fun v19 e_v19 => ?_)
      have e_v19 : v19.toInt = v16.toInt + a4.toInt := ad_i e_v19 rfl rfl (by omega) (by omega)
      refine t_calli (va_runV (As := [.int a1, .int p3_l5, .int v19]) (rest := []) ⟨hx, hb, hml, hown, hts⟩ (t_X12_gainBy l dC dI tys κ B w3 hw.2.2.2.2 a0 k_a0 a1 (by omega) (by omega) p3_l5 (by omega) (by omega) v19 (by omega) (by omega) H.size) (cwV 3 hts (gUV tw_1668 tw_1670 ts_7_11 tw_13 tw_1671) rfl rfl rfl (by decide +kernel) ⟨(Nat.le_of_ble_eq_true rfl), (Nat.le_of_ble_eq_true rfl)⟩) ⟨cPre.blind, t_recv hw (ci := 12) k_a0 rfl rfl, cPre.use hw.2.1 hw.1 hw.2.2.1 hE⟩ rfl rfl hl.1 rfl (lv_room (Nat.le_of_ble_eq_true rfl)) dX12_isRest_20 ⟨(Nat.le_of_ble_eq_true rfl), (Nat.le_of_ble_eq_true rfl)⟩) hw hA (fun _ _ h => h.2.2.1) (fun v20 w_1 H locs hp hw => ?_)
      obtain ⟨l_v20, h_v20, _, hm⟩ := hp
      have hM := hM.trans hm (by decide) (by decide)
      refine lv_aload_n hx hb dX12_isRest_23 rfl (lv_at hl 0 rfl) ?_
      refine lv_iload_n hx hb dX12_isRest_24 rfl (lv_at hl 1 rfl) ?_
      refine lv_iload_n hx hb dX12_isRest_25 rfl (lv_at hl 3 rfl) ?_
      refine lv_iconst (v := 5) hx hb dX12_isRest_26 (by decide) ?_
      refine lv_iload_n hx hb dX12_isRest_27 rfl (lv_at hl 3 rfl) ?_
      refine lv_imul hx hb dX12_isRest_28 ?_
      refine lv_topi (fun v28 e_v28 => ?_)
      have e_v28 : v28.toInt = 5 * a3.toInt := ml_i e_v28 li_5 rfl (by omega) (by omega)
      refine lv_iload hx hb dX12_isRest_29 (lv_at hl 4 rfl) ?_
      refine lv_iadd hx hb dX12_isRest_31 ?_
      refine lv_topi (fun v31 e_v31 => ?_)
      have e_v31 : v31.toInt = v28.toInt + a4.toInt := ad_i e_v31 rfl rfl (by omega) (by omega)
      refine t_calli (va_runV (As := [.int a1, .int a3, .int v31]) (rest := [.int v20]) ⟨hx, hb, hml, hown, hts⟩ (t_X12_gainBy l dC dI tys κ B w_1 hw.2.2.2.2 a0 k_a0 a1 (by omega) (by omega) a3 (by omega) (by omega) v31 (by omega) (by omega) H.size) (cwV 3 hts (gUV tw_1668 tw_1670 ts_7_11 tw_13 tw_1671) rfl rfl rfl (by decide +kernel) ⟨(Nat.le_of_ble_eq_true rfl), (Nat.le_of_ble_eq_true rfl)⟩) ⟨cPre.blind, t_recv hw (ci := 12) k_a0 rfl rfl, cPre.use hw.2.1 hw.1 hw.2.2.1 hE⟩ rfl rfl hl.1 rfl (lv_room (Nat.le_of_ble_eq_true rfl)) dX12_isRest_32 ⟨(Nat.le_of_ble_eq_true rfl), (Nat.le_of_ble_eq_true rfl)⟩) hw hA (fun _ _ h => h.2.2.1) (fun v32 w_2 H locs hp hw => ?_)
      obtain ⟨l_v32, h_v32, _, hm⟩ := hp
      have hM := hM.trans hm (by decide) (by decide)
      refine lv_icmp_gt (tgt := 67) hx hb dX12_isRest_35 (by decide) (fun c_35 => ?_) (fun c_35 => ?_)
      · simp only [fa_lt, fa_le, fa_eq] at c_35
        refine lv_iconst (v := 0) hx hb dX12_isRest_67 (by decide) ?_
        rw [hQ]
        refine W.widen (k := 0) (n := 0) (Nat.le_refl _) (Nat.le_refl _) ?_
        exact W.zret (v := 0) hx hb hr rfl (fun t ht hW => ⟨⟨0, w_2, rfl, ⟨(by decide), (by decide), hw.2.2.2.2, hM⟩, by rw [ht]; exact hw.2.1, va_K.moved hW.alike hw.1, hw.2.2.1⟩, hw.2.2.2.1.F ht⟩) hw.2.2.2.1.2.2 dX12_isRest_68
      · simp only [fa_lt, fa_le, fa_eq] at c_35
        refine lv_aload_n hx hb dX12_isRest_38 rfl (lv_at hl 0 rfl) ?_
        refine lv_iload_n hx hb dX12_isRest_39 rfl (lv_at hl 2 rfl) ?_
        refine lv_iload hx hb dX12_isRest_40 (lv_at hl 5 rfl) ?_
        refine lv_iconst (v := 5) hx hb dX12_isRest_42 (by decide) ?_
        refine lv_iload_n hx hb dX12_isRest_43 rfl (lv_at hl 3 rfl) ?_
        refine lv_imul hx hb dX12_isRest_44 ?_
        refine lv_topi (fun v44 e_v44 => ?_)
        have e_v44 : v44.toInt = 5 * a3.toInt := ml_i e_v44 li_5 rfl (by omega) (by omega)
        refine lv_iload hx hb dX12_isRest_45 (lv_at hl 5 rfl) ?_
        refine lv_iadd hx hb dX12_isRest_47 ?_
        refine lv_topi (fun v47 e_v47 => ?_)
        have e_v47 : v47.toInt = v44.toInt + p3_l5.toInt := ad_i e_v47 rfl rfl (by omega) (by omega)
        refine t_calli (va_runV (As := [.int a2, .int p3_l5, .int v47]) (rest := []) ⟨hx, hb, hml, hown, hts⟩ (t_X12_gainBy l dC dI tys κ B w_2 hw.2.2.2.2 a0 k_a0 a2 (by omega) (by omega) p3_l5 (by omega) (by omega) v47 (by omega) (by omega) H.size) (cwV 3 hts (gUV tw_1668 tw_1670 ts_7_11 tw_13 tw_1671) rfl rfl rfl (by decide +kernel) ⟨(Nat.le_of_ble_eq_true rfl), (Nat.le_of_ble_eq_true rfl)⟩) ⟨cPre.blind, t_recv hw (ci := 12) k_a0 rfl rfl, cPre.use hw.2.1 hw.1 hw.2.2.1 hE⟩ rfl rfl hl.1 rfl (lv_room (Nat.le_of_ble_eq_true rfl)) dX12_isRest_48 ⟨(Nat.le_of_ble_eq_true rfl), (Nat.le_of_ble_eq_true rfl)⟩) hw hA (fun _ _ h => h.2.2.1) (fun v48 w_3 H locs hp hw => ?_)
        obtain ⟨l_v48, h_v48, _, hm⟩ := hp
        have hM := hM.trans hm (by decide) (by decide)
        refine lv_aload_n hx hb dX12_isRest_51 rfl (lv_at hl 0 rfl) ?_
        refine lv_iload_n hx hb dX12_isRest_52 rfl (lv_at hl 2 rfl) ?_
        refine lv_iload hx hb dX12_isRest_53 (lv_at hl 4 rfl) ?_
        refine lv_iconst (v := 5) hx hb dX12_isRest_55 (by decide) ?_
        refine lv_iload_n hx hb dX12_isRest_56 rfl (lv_at hl 3 rfl) ?_
        refine lv_imul hx hb dX12_isRest_57 ?_
        refine lv_topi (fun v57 e_v57 => ?_)
        have e_v57 : v57.toInt = 5 * a3.toInt := ml_i e_v57 li_5 rfl (by omega) (by omega)
        refine lv_iload hx hb dX12_isRest_58 (lv_at hl 4 rfl) ?_
        refine lv_iadd hx hb dX12_isRest_60 ?_
        refine lv_topi (fun v60 e_v60 => ?_)
        have e_v60 : v60.toInt = v57.toInt + a4.toInt := ad_i e_v60 rfl rfl (by omega) (by omega)
        refine t_calli (va_runV (As := [.int a2, .int a4, .int v60]) (rest := [.int v48]) ⟨hx, hb, hml, hown, hts⟩ (t_X12_gainBy l dC dI tys κ B w_3 hw.2.2.2.2 a0 k_a0 a2 (by omega) (by omega) a4 (by omega) (by omega) v60 (by omega) (by omega) H.size) (cwV 3 hts (gUV tw_1668 tw_1670 ts_7_11 tw_13 tw_1671) rfl rfl rfl (by decide +kernel) ⟨(Nat.le_of_ble_eq_true rfl), (Nat.le_of_ble_eq_true rfl)⟩) ⟨cPre.blind, t_recv hw (ci := 12) k_a0 rfl rfl, cPre.use hw.2.1 hw.1 hw.2.2.1 hE⟩ rfl rfl hl.1 rfl (lv_room (Nat.le_of_ble_eq_true rfl)) dX12_isRest_61 ⟨(Nat.le_of_ble_eq_true rfl), (Nat.le_of_ble_eq_true rfl)⟩) hw hA (fun _ _ h => h.2.2.1) (fun v61 w_4 H locs hp hw => ?_)
        obtain ⟨l_v61, h_v61, _, hm⟩ := hp
        have hM := hM.trans hm (by decide) (by decide)
        refine lv_icmp_le (tgt := 69) hx hb dX12_isRest_64 (by decide) (fun c_64 => ?_) (fun c_64 => ?_)
        · simp only [fa_lt, fa_le, fa_eq] at c_64
          obtain ⟨v69, e_v69⟩ : ∃ y : Int32, y = p3_l5 + 1 := ⟨_, rfl⟩
          refine lv_iinc (v := v69) (lv' := [(5, .int v69), (0, .ref a0), (1, .int a1), (2, .int a2), (3, .int a3), (4, .int a4)]) hx hb dX12_isRest_69 hl (k := 5) rfl e_v69.symm (by decide) rfl (fun ls hl => ?_)
          have e_v69 : v69.toInt = p3_l5.toInt + 1 := ad_i e_v69 rfl li_1 (by omega) (by omega)
          refine lv_goto (tgt := 3) hx hb dX12_isRest_72 (by decide) ?_
          exact ih_3 _ _ _ _ (by omega) ⟨w_4, v69, hw, hM, (by omega), (by omega), (lv_sub hl [1, 2, 3, 4, 5, 0] rfl), rfl⟩
        · simp only [fa_lt, fa_le, fa_eq] at c_64
          refine lv_iconst (v := 0) hx hb dX12_isRest_67 (by decide) ?_
          rw [hQ]
          refine W.widen (k := 0) (n := 0) (Nat.le_refl _) (Nat.le_refl _) ?_
          exact W.zret (v := 0) hx hb hr rfl (fun t ht hW => ⟨⟨0, w_4, rfl, ⟨(by decide), (by decide), hw.2.2.2.2, hM⟩, by rw [ht]; exact hw.2.1, va_K.moved hW.alike hw.1, hw.2.2.1⟩, hw.2.2.2.1.F ht⟩) hw.2.2.2.1.2.2 dX12_isRest_68
  exact J3 _ _ _ _ ⟨ws, 0, hw, hM, (by decide), (by decide), (lv_sub hl [1, 2, 3, 4, 5, 0] rfl), rfl⟩
set_option maxHeartbeats 4000000 in
set_option maxRecDepth 100000 in
theorem t_X12_isWonBy (l : Launch) (dC : Nat → ClassId) (dI : Nat → Nat → Nat) (tys : List (ClassId × FieldType)) (κ : tK) (B : Nat) (ws : va_W) (hT : Ty κ tys B ws) (a0 : Nat) (k_a0 : κ a0 = some 12) (a1 : Int32) (l_a1 : 0 ≤ a1.toInt) (h_a1 : a1.toInt ≤ 5) (a2 : Int32) (l_a2 : 0 ≤ a2.toInt) (h_a2 : a2.toInt ≤ 64) (sz : Nat) : Met l yX12_isWonBy (ws_u yX12_isWonBy cX12_isWonBy 4 (some .boolean)) ({ frames := 17, cells := 0, slots := 0, locals := 524 }) (va_Pc [.ref a0, .int a1, .int a2] (cPre (dC, dI) tys ws sz)) (va_Qi (fun (r : Int32) (w : va_W) => 0 ≤ r.toInt ∧ r.toInt ≤ 1 ∧ Ty κ tys B w ∧ Sm [(12, 18)] [61, 62, 64] κ ws w) (fun w t => cPost (dC, dI) tys w (va_A ws sz) t) (va_A ws sz)) 0 0 (va_A ws sz) := by
  refine Met.ofW (cc := cX12_isWonBy) (maxL := 4) (ret := (some .boolean)) (by decide) rfl ?_
  intro p e s m args below meth c s₁ B0 hml hv
  obtain ⟨rfl, hsz, hP, hK, hD0, hE⟩ := hv
  have hx := B0.exec
  have hb := B0.bytes
  have hr := B0.returns
  have hts0 := atoms_spec (ws := ws_u yX12_isWonBy cX12_isWonBy 4 (some .boolean)) B0.pre
  have hts : ∀ w ∈ gT, w.before _ s = true := fun w h => hts0 w (List.mem_cons_of_mem _ h)
  have hown : s.vm.findClass RX12 = some m.cls := findClass_of_methodNamed B0.named
  have hlocks := B0.notSynchronized
  subst hsz
  have hD := hD0.self (sz := s.heap.size)
  generalize hAe : va_A ws s.heap.size = A at hD ⊢
  have hA : ∀ q : Nat, s.heap.size ≤ q → A q := fun q h => by rw [← hAe]; exact Or.inr h
  have hw : tW (dC, dI) tys κ B A s ws s.heap [] := ⟨hK, hP, hD, va_S.rf, hT⟩
  have hM : Sm [(12, 18)] [61, 62, 64] κ ws ws := Sm.rf
  clear hP hK hD hD0 hts0
  have hl := lv_entry ([.ref a0, .int a1, .int a2]) (n := 4) (Nat.le_of_ble_eq_true rfl)
  rw [lg_entry_eq]
  generalize (lg_sl ([.ref a0, .int a1, .int a2]) ++ List.replicate (4 - (lg_sl ([.ref a0, .int a1, .int a2])).length) Slot.unset).toArray = ls at hl ⊢
  have hl : lv_has ls 4 [(0, .ref a0), (1, .int a1), (2, .int a2)] := hl
  refine t_start (fun QQ hQ => ?_)
  refine lv_aload_n hx hb dX12_isWonBy_0 rfl (lv_at hl 0 rfl) ?_
  refine t_callv (va_runV (As := []) (rest := []) ⟨hx, hb, hml, hown, hts⟩ (t_X12_fillsVotes l dC dI tys κ B ws hw.2.2.2.2 a0 k_a0 s.heap.size) (cwV 0 hts (gUV tw_1509 tw_1511 ts_6_1 tw_13 tw_1512) rfl rfl rfl (by decide +kernel) ⟨(Nat.le_of_ble_eq_true rfl), (Nat.le_of_ble_eq_true rfl)⟩) ⟨cPre.blind, t_recv hw (ci := 12) k_a0 rfl rfl, cPre.use hw.2.1 hw.1 hw.2.2.1 hE⟩ rfl rfl hl.1 rfl (lv_room (Nat.le_of_ble_eq_true rfl)) dX12_isWonBy_1 ⟨(Nat.le_of_ble_eq_true rfl), (Nat.le_of_ble_eq_true rfl)⟩) hw hA (fun _ h => h.1) (fun w_1 H locs hp hw => ?_)
  obtain ⟨_, hm⟩ := hp
  have hM := hM.trans hm (by decide) (by decide)
  refine lv_iconst (v := 0) hx hb dX12_isWonBy_4 (by decide) ?_
  refine lv_istore_n (lv' := [(3, .int 0), (0, .ref a0), (1, .int a1), (2, .int a2)]) hx hb dX12_isWonBy_5 rfl hl (by decide) rfl (fun ls hl => ?_)
  have J6 : ∀ (n : Nat) (H : Heap) (locs : List Loc) (ls : Array Slot), (∃ (w6 : va_W) (p6_l3 : Int32), tW (dC, dI) tys κ B A s w6 H locs ∧ Sm [(12, 18)] [61, 62, 64] κ ws w6 ∧ 0 ≤ p6_l3.toInt ∧ p6_l3.toInt ≤ 6 ∧ lv_has ls 4 [(0, .ref a0), (1, .int a1), (2, .int a2), (3, .int p6_l3)] ∧ (6 - p6_l3.toInt).toNat = n) → W p l e (headSpec (ws_u yX12_isWonBy cX12_isWonBy 4 (some .boolean)) ({ frames := 17, cells := 0, slots := 0, locals := 524 })).room s m ([.ref a0, .int a1, .int a2] : List Value).toArray below meth c H locs 0 0 QQ (F0 m 6 ls []) := by
    refine loopT _ ?_
    intro n_6 H locs ls hI ih_6
    obtain ⟨w6, p6_l3, hw, hM, l_p6_l3, h_p6_l3, hl, hn_6⟩ := hI
    refine lv_iload_n hx hb dX12_isWonBy_6 rfl (lv_at hl 3 rfl) ?_
    refine lv_aload_n hx hb dX12_isWonBy_7 rfl (lv_at hl 0 rfl) ?_
    refine t_getr (k1 := 63) (ci := 12) (C := RX12) (T := TX12) (N := 38) hx hb hts iX12 hown hw k_a0 rfl rfl rfl 20 (by decide) (hts _ tw_1145) (fun _ h9 => h9) dX12_isWonBy_8 rfl (fun v8 k_v8 f_a0_X12_20 => ?_)
    refine lv_iconst (v := 3) hx hb dX12_isWonBy_11 (by decide) ?_
    refine t_iald hx hb hw k_v8 rfl rfl (by decide) (by decide) dX12_isWonBy_12 (fun v12 r_v12 s_v12 f_v8_M_said_3 => ?_)
    have l_v12 : 0 ≤ v12.toInt := by rw [iv_63_3] at r_v12; exact r_v12
    have h_v12 : v12.toInt ≤ 6 := by rw [iv_63_3] at s_v12; exact s_v12
    refine lv_icmp_ge (tgt := 37) hx hb dX12_isWonBy_13 (by decide) (fun c_13 => ?_) (fun c_13 => ?_)
    · simp only [fa_lt, fa_le, fa_eq] at c_13
      refine lv_aload_n hx hb dX12_isWonBy_37 rfl (lv_at hl 0 rfl) ?_
      refine t_calli (va_runV (As := []) (rest := []) ⟨hx, hb, hml, hown, hts⟩ (t_X12_mostVoted l dC dI tys κ B w6 hw.2.2.2.2 a0 k_a0 H.size) (cwV 0 hts (gUV tw_1548 tw_1550 ts_6_10 tw_13 tw_1551) rfl rfl rfl (by decide +kernel) ⟨(Nat.le_of_ble_eq_true rfl), (Nat.le_of_ble_eq_true rfl)⟩) ⟨cPre.blind, t_recv hw (ci := 12) k_a0 rfl rfl, cPre.use hw.2.1 hw.1 hw.2.2.1 hE⟩ rfl rfl hl.1 rfl (lv_room (Nat.le_of_ble_eq_true rfl)) dX12_isWonBy_38 ⟨(Nat.le_of_ble_eq_true rfl), (Nat.le_of_ble_eq_true rfl)⟩) hw hA (fun _ _ h => h.2.2.1) (fun v38 w_2 H locs hp hw => ?_)
      obtain ⟨l_v38, h_v38, _, hm⟩ := hp
      have hM := hM.trans hm (by decide) (by decide)
      have f_a0_X12_20 := hm.1 _ _ _ _ f_a0_X12_20 (by decide)
      have f_v8_M_said_3 := hm.elt k_v8 (by decide) f_v8_M_said_3
      refine lv_iload_n hx hb dX12_isWonBy_41 rfl (lv_at hl 1 rfl) ?_
      refine lv_icmp_ne (tgt := 49) hx hb dX12_isWonBy_42 (by decide) (fun c_42 => ?_) (fun c_42 => ?_)
      · simp only [fa_lt, fa_le, fa_eq] at c_42
        refine lv_iconst (v := 0) hx hb dX12_isWonBy_49 (by decide) ?_
        rw [hQ]
        refine W.widen (k := 0) (n := 0) (Nat.le_refl _) (Nat.le_refl _) ?_
        exact W.zret (v := 0) hx hb hr rfl (fun t ht hW => ⟨⟨0, w_2, rfl, ⟨(by decide), (by decide), hw.2.2.2.2, hM⟩, by rw [ht]; exact hw.2.1, va_K.moved hW.alike hw.1, hw.2.2.1⟩, hw.2.2.2.1.F ht⟩) hw.2.2.2.1.2.2 dX12_isWonBy_50
      · simp only [fa_lt, fa_le, fa_eq] at c_42
        refine lv_iconst (v := 1) hx hb dX12_isWonBy_45 (by decide) ?_
        refine lv_goto (tgt := 50) hx hb dX12_isWonBy_46 (by decide) ?_
        rw [hQ]
        refine W.widen (k := 0) (n := 0) (Nat.le_refl _) (Nat.le_refl _) ?_
        exact W.zret (v := 1) hx hb hr rfl (fun t ht hW => ⟨⟨1, w_2, rfl, ⟨(by decide), (by decide), hw.2.2.2.2, hM⟩, by rw [ht]; exact hw.2.1, va_K.moved hW.alike hw.1, hw.2.2.1⟩, hw.2.2.2.1.F ht⟩) hw.2.2.2.1.2.2 dX12_isWonBy_50
    · simp only [fa_lt, fa_le, fa_eq] at c_13
      refine lv_iload_n hx hb dX12_isWonBy_16 rfl (lv_at hl 2 rfl) ?_
      refine lv_iload_n hx hb dX12_isWonBy_17 rfl (lv_at hl 3 rfl) ?_
      refine t_calli (va_runS (As := [.int a2, .int p6_l3]) (rest := []) ⟨hx, hb, hml, hown, hts⟩ (t_X12_isOf l dC dI tys κ B w6 hw.2.2.2.2 a2 p6_l3 (by omega) (by omega) H.size) (va_cwS 2 hts (gUS tw_1637 tw_1638 tw_13 tw_1639) rfl rfl rfl (by decide +kernel) ⟨(Nat.le_of_ble_eq_true rfl), (Nat.le_of_ble_eq_true rfl)⟩) ⟨cPre.blind, cPre.use hw.2.1 hw.1 hw.2.2.1 hE⟩ rfl rfl hl.1 rfl (lv_room (Nat.le_of_ble_eq_true rfl)) dX12_isWonBy_18 ⟨(Nat.le_of_ble_eq_true rfl), (Nat.le_of_ble_eq_true rfl)⟩) hw hA (fun _ _ h => h.2.2.1) (fun v18 w_3 H locs hp hw => ?_)
      obtain ⟨l_v18, h_v18, _, hm⟩ := hp
      have hM := hM.trans hm (by decide) (by decide)
      have f_a0_X12_20 := hm.1 _ _ _ _ f_a0_X12_20 (by decide)
      have f_v8_M_said_3 := hm.elt k_v8 (by decide) f_v8_M_said_3
      have J31 : ∀ (H : Heap) (locs : List Loc) (ls : Array Slot) (w31 : va_W), tW (dC, dI) tys κ B A s w31 H locs → Sm [(12, 18)] [61, 62, 64] κ ws w31 → fld w31 a0 12 20 (.ref v8) → elt w31 v8 (3 : Int32).toInt.toNat v12 → lv_has ls 4 [(0, .ref a0), (1, .int a1), (2, .int a2), (3, .int p6_l3)] → W p l e (headSpec (ws_u yX12_isWonBy cX12_isWonBy 4 (some .boolean)) ({ frames := 17, cells := 0, slots := 0, locals := 524 })).room s m ([.ref a0, .int a1, .int a2] : List Value).toArray below meth c H locs 0 0 QQ (F0 m 31 ls []) := by
        intro H locs ls w31 hw hM f_a0_X12_20 f_v8_M_said_3 hl
        obtain ⟨v31, e_v31⟩ : ∃ y : Int32, y = p6_l3 + 1 := ⟨_, rfl⟩
        refine lv_iinc (v := v31) (lv' := [(3, .int v31), (0, .ref a0), (1, .int a1), (2, .int a2)]) hx hb dX12_isWonBy_31 hl (k := 3) rfl e_v31.symm (by decide) rfl (fun ls hl => ?_)
        have e_v31 : v31.toInt = p6_l3.toInt + 1 := ad_i e_v31 rfl li_1 (by omega) (by omega)
        refine lv_goto (tgt := 6) hx hb dX12_isWonBy_34 (by decide) ?_
        exact ih_6 _ _ _ _ (by omega) ⟨w31, v31, hw, hM, (by omega), (by omega), (lv_sub hl [1, 2, 3, 0] rfl), rfl⟩
      refine lv_if_eq (tgt := 31) hx hb dX12_isWonBy_21 (by decide) (fun c_21 => ?_) (fun c_21 => ?_)
      · simp only [fa_lt, fa_le, fa_eq, li_0] at c_21
        exact J31 _ _ _ w_3 hw hM f_a0_X12_20 f_v8_M_said_3 (lv_sub hl [0, 1, 2, 3] rfl)
      · simp only [fa_lt, fa_le, fa_eq, li_0] at c_21
        refine lv_aload_n hx hb dX12_isWonBy_24 rfl (lv_at hl 0 rfl) ?_
        refine t_getr (k1 := 64) (ci := 12) (C := RX12) (T := TX12) (N := 38) hx hb hts iX12 hown hw k_a0 rfl rfl rfl 23 (by decide) (hts _ tw_1148) (fun _ h9 => h9) dX12_isWonBy_25 rfl (fun v25 k_v25 f_a0_X12_23 => ?_)
        refine lv_iload_n hx hb dX12_isWonBy_28 rfl (lv_at hl 3 rfl) ?_
        refine lv_iload_n hx hb dX12_isWonBy_29 rfl (lv_at hl 1 rfl) ?_
        refine t_iast hx hb hw k_v25 rfl rfl (by omega) (show p6_l3.toInt < 6 by omega) (i32_lo _) (i32_hi _) dX12_isWonBy_30 (fun w_4 H locs hw u => ?_)
        have hM := hM.up3 u k_v25 (by decide)
        have f_a0_X12_20 := u.1 _ _ _ _ f_a0_X12_20
        have f_v8_M_said_3 := u.2.2.1 _ _ _ f_v8_M_said_3 (Or.inl (ne_k k_v8 k_v25 (by decide)))
        have f_a0_X12_23 := u.1 _ _ _ _ f_a0_X12_23
        exact J31 _ _ _ w_4 hw hM f_a0_X12_20 f_v8_M_said_3 (lv_sub hl [0, 1, 2, 3] rfl)
  exact J6 _ _ _ _ ⟨w_1, 0, hw, hM, (by decide), (by decide), (lv_sub hl [1, 2, 3, 0] rfl), rfl⟩
set_option maxHeartbeats 4000000 in
set_option maxRecDepth 100000 in
theorem t_X12_laidIn (l : Launch) (dC : Nat → ClassId) (dI : Nat → Nat → Nat) (tys : List (ClassId × FieldType)) (κ : tK) (B : Nat) (ws : va_W) (hT : Ty κ tys B ws) (a0 : Nat) (k_a0 : κ a0 = some 12) (a1 : Int32) (l_a1 : 0 ≤ a1.toInt) (h_a1 : a1.toInt ≤ 63) (sz : Nat) : Met l yX12_laidIn (ws_u yX12_laidIn cX12_laidIn 4 (some .int)) ({ frames := 1, cells := 0, slots := 0, locals := 21 }) (va_Pc [.ref a0, .int a1] (cPre (dC, dI) tys ws sz)) (va_Qi (fun (r : Int32) (w : va_W) => Ty κ tys B w ∧ Sm [] [] κ ws w) (fun w t => cPost (dC, dI) tys w (va_A ws sz) t) (va_A ws sz)) 0 0 (va_A ws sz) := by
  refine Met.ofW (cc := cX12_laidIn) (maxL := 4) (ret := (some .int)) (by decide) rfl ?_
  intro p e s m args below meth c s₁ B0 hml hv
  obtain ⟨rfl, hsz, hP, hK, hD0, hE⟩ := hv
  have hx := B0.exec
  have hb := B0.bytes
  have hr := B0.returns
  have hts0 := atoms_spec (ws := ws_u yX12_laidIn cX12_laidIn 4 (some .int)) B0.pre
  have hts : ∀ w ∈ gT, w.before _ s = true := fun w h => hts0 w (List.mem_cons_of_mem _ h)
  have hown : s.vm.findClass RX12 = some m.cls := findClass_of_methodNamed B0.named
  have hlocks := B0.notSynchronized
  subst hsz
  have hD := hD0.self (sz := s.heap.size)
  generalize hAe : va_A ws s.heap.size = A at hD ⊢
  have hA : ∀ q : Nat, s.heap.size ≤ q → A q := fun q h => by rw [← hAe]; exact Or.inr h
  have hw : tW (dC, dI) tys κ B A s ws s.heap [] := ⟨hK, hP, hD, va_S.rf, hT⟩
  have hM : Sm [] [] κ ws ws := Sm.rf
  clear hP hK hD hD0 hts0
  have hl := lv_entry ([.ref a0, .int a1]) (n := 4) (Nat.le_of_ble_eq_true rfl)
  rw [lg_entry_eq]
  generalize (lg_sl ([.ref a0, .int a1]) ++ List.replicate (4 - (lg_sl ([.ref a0, .int a1])).length) Slot.unset).toArray = ls at hl ⊢
  have hl : lv_has ls 4 [(0, .ref a0), (1, .int a1)] := hl
  refine t_start (fun QQ hQ => ?_)
  refine lv_iconst (v := 0) hx hb dX12_laidIn_0 (by decide) ?_
  refine lv_istore_n (lv' := [(2, .int 0), (0, .ref a0), (1, .int a1)]) hx hb dX12_laidIn_1 rfl hl (by decide) rfl (fun ls hl => ?_)
  refine lv_iconst (v := 0) hx hb dX12_laidIn_2 (by decide) ?_
  refine lv_istore_n (lv' := [(3, .int 0), (2, .int 0), (0, .ref a0), (1, .int a1)]) hx hb dX12_laidIn_3 rfl hl (by decide) rfl (fun ls hl => ?_)
  have J4 : ∀ (n : Nat) (H : Heap) (locs : List Loc) (ls : Array Slot), (∃ (w4 : va_W) (p4_l2 : Int32) (p4_l3 : Int32), tW (dC, dI) tys κ B A s w4 H locs ∧ Sm [] [] κ ws w4 ∧ (-2147483648) ≤ p4_l2.toInt ∧ p4_l2.toInt ≤ 2147483647 ∧ 0 ≤ p4_l3.toInt ∧ p4_l3.toInt ≤ 6 ∧ lv_has ls 4 [(0, .ref a0), (1, .int a1), (2, .int p4_l2), (3, .int p4_l3)] ∧ (6 - p4_l3.toInt).toNat = n) → W p l e (headSpec (ws_u yX12_laidIn cX12_laidIn 4 (some .int)) ({ frames := 1, cells := 0, slots := 0, locals := 21 })).room s m ([.ref a0, .int a1] : List Value).toArray below meth c H locs 0 0 QQ (F0 m 4 ls []) := by
    refine loopT _ ?_
    intro n_4 H locs ls hI ih_4
    obtain ⟨w4, p4_l2, p4_l3, hw, hM, l_p4_l2, h_p4_l2, l_p4_l3, h_p4_l3, hl, hn_4⟩ := hI
    refine lv_iload_n hx hb dX12_laidIn_4 rfl (lv_at hl 3 rfl) ?_
    refine lv_aload_n hx hb dX12_laidIn_5 rfl (lv_at hl 0 rfl) ?_
    refine t_getr (k1 := 63) (ci := 12) (C := RX12) (T := TX12) (N := 38) hx hb hts iX12 hown hw k_a0 rfl rfl rfl 20 (by decide) (hts _ tw_1145) (fun _ h9 => h9) dX12_laidIn_6 rfl (fun v6 k_v6 f_a0_X12_20 => ?_)
    refine lv_iconst (v := 5) hx hb dX12_laidIn_9 (by decide) ?_
    refine t_iald hx hb hw k_v6 rfl rfl (by decide) (by decide) dX12_laidIn_10 (fun v10 r_v10 s_v10 f_v6_M_said_5 => ?_)
    have l_v10 : 0 ≤ v10.toInt := by rw [iv_63_5] at r_v10; exact r_v10
    have h_v10 : v10.toInt ≤ 6 := by rw [iv_63_5] at s_v10; exact s_v10
    refine lv_icmp_ge (tgt := 44) hx hb dX12_laidIn_11 (by decide) (fun c_11 => ?_) (fun c_11 => ?_)
    · simp only [fa_lt, fa_le, fa_eq] at c_11
      refine lv_iload_n hx hb dX12_laidIn_44 rfl (lv_at hl 2 rfl) ?_
      rw [hQ]
      refine W.widen (k := 0) (n := 0) (Nat.le_refl _) (Nat.le_refl _) ?_
      exact W.iret (v := p4_l2) hx hb hr (fun t ht hW => ⟨⟨p4_l2, w4, rfl, ⟨hw.2.2.2.2, hM⟩, by rw [ht]; exact hw.2.1, va_K.moved hW.alike hw.1, hw.2.2.1⟩, hw.2.2.2.1.F ht⟩) hw.2.2.2.1.2.2 dX12_laidIn_45
    · simp only [fa_lt, fa_le, fa_eq] at c_11
      refine lv_iload_n hx hb dX12_laidIn_14 rfl (lv_at hl 2 rfl) ?_
      refine lv_iload_n hx hb dX12_laidIn_15 rfl (lv_at hl 1 rfl) ?_
      refine lv_iload_n hx hb dX12_laidIn_16 rfl (lv_at hl 3 rfl) ?_
      refine t_calli (va_runS (As := [.int a1, .int p4_l3]) (rest := [.int p4_l2]) ⟨hx, hb, hml, hown, hts⟩ (t_X12_isOf l dC dI tys κ B w4 hw.2.2.2.2 a1 p4_l3 (by omega) (by omega) H.size) (va_cwS 2 hts (gUS tw_1637 tw_1638 tw_13 tw_1639) rfl rfl rfl (by decide +kernel) ⟨(Nat.le_of_ble_eq_true rfl), (Nat.le_of_ble_eq_true rfl)⟩) ⟨cPre.blind, cPre.use hw.2.1 hw.1 hw.2.2.1 hE⟩ rfl rfl hl.1 rfl (lv_room (Nat.le_of_ble_eq_true rfl)) dX12_laidIn_17 ⟨(Nat.le_of_ble_eq_true rfl), (Nat.le_of_ble_eq_true rfl)⟩) hw hA (fun _ _ h => h.2.2.1) (fun v17 w_1 H locs hp hw => ?_)
      obtain ⟨l_v17, h_v17, _, hm⟩ := hp
      have hM := hM.trans hm (by decide) (by decide)
      have f_a0_X12_20 := hm.1 _ _ _ _ f_a0_X12_20 (by decide)
      have f_v6_M_said_5 := hm.elt k_v6 (by decide) f_v6_M_said_5
      have J36 : ∀ (H : Heap) (locs : List Loc) (ls : Array Slot) (w36 : va_W) (p36_s0 : Int32), tW (dC, dI) tys κ B A s w36 H locs → Sm [] [] κ ws w36 → (-2147483648) ≤ p36_s0.toInt → p36_s0.toInt ≤ 2147483647 → fld w36 a0 12 20 (.ref v6) → elt w36 v6 (5 : Int32).toInt.toNat v10 → lv_has ls 4 [(0, .ref a0), (1, .int a1), (2, .int p4_l2), (3, .int p4_l3)] → W p l e (headSpec (ws_u yX12_laidIn cX12_laidIn 4 (some .int)) ({ frames := 1, cells := 0, slots := 0, locals := 21 })).room s m ([.ref a0, .int a1] : List Value).toArray below meth c H locs 0 0 QQ (F0 m 36 ls [.int p36_s0, .int p4_l2]) := by
        intro H locs ls w36 p36_s0 hw hM l_p36_s0 h_p36_s0 f_a0_X12_20 f_v6_M_said_5 hl
        refine lv_iadd hx hb dX12_laidIn_36 ?_
        refine lv_topi (fun v36 e_v36 => ?_)
        have l_v36 := i32_lo v36
        have h_v36 := i32_hi v36
        refine lv_istore_n (lv' := [(2, .int v36), (0, .ref a0), (1, .int a1), (3, .int p4_l3)]) hx hb dX12_laidIn_37 rfl hl (by decide) rfl (fun ls hl => ?_)
        obtain ⟨v38, e_v38⟩ : ∃ y : Int32, y = p4_l3 + 1 := ⟨_, rfl⟩
        refine lv_iinc (v := v38) (lv' := [(3, .int v38), (2, .int v36), (0, .ref a0), (1, .int a1)]) hx hb dX12_laidIn_38 hl (k := 3) rfl e_v38.symm (by decide) rfl (fun ls hl => ?_)
        have e_v38 : v38.toInt = p4_l3.toInt + 1 := ad_i e_v38 rfl li_1 (by omega) (by omega)
        refine lv_goto (tgt := 4) hx hb dX12_laidIn_41 (by decide) ?_
        exact ih_4 _ _ _ _ (by omega) ⟨w36, v36, v38, hw, hM, (by omega), (by omega), (by omega), (by omega), (lv_sub hl [2, 3, 1, 0] rfl), rfl⟩
      refine lv_if_eq (tgt := 35) hx hb dX12_laidIn_20 (by decide) (fun c_20 => ?_) (fun c_20 => ?_)
      · simp only [fa_lt, fa_le, fa_eq, li_0] at c_20
        refine lv_iconst (v := 0) hx hb dX12_laidIn_35 (by decide) ?_
        exact J36 _ _ _ w_1 0 hw hM (by decide) (by decide) f_a0_X12_20 f_v6_M_said_5 (lv_sub hl [0, 1, 2, 3] rfl)
      · simp only [fa_lt, fa_le, fa_eq, li_0] at c_20
        refine lv_aload_n hx hb dX12_laidIn_23 rfl (lv_at hl 0 rfl) ?_
        refine t_getk (ci := 12) (C := RX12) (T := TX12) (N := 38) hx hb hts iX12 hown hw rfl 20 (by decide) (hts _ tw_1145) (fun _ h9 => h9) dX12_laidIn_24 f_a0_X12_20 ?_
        refine lv_bipush (v := 34) hx hb dX12_laidIn_27 (by decide) ?_
        refine lv_iload_n hx hb dX12_laidIn_29 rfl (lv_at hl 3 rfl) ?_
        refine lv_iadd hx hb dX12_laidIn_30 ?_
        refine lv_topi (fun v30 e_v30 => ?_)
        have e_v30 : v30.toInt = 34 + p4_l3.toInt := ad_i e_v30 li_34 rfl (by omega) (by omega)
        refine t_iald hx hb hw k_v6 rfl rfl (by omega) (show v30.toInt < 306 by omega) dX12_laidIn_31 (fun v31 r_v31 s_v31 q_v31 => ?_)
        have l_v31 := i32_lo v31
        have h_v31 := i32_hi v31
        refine lv_goto (tgt := 36) hx hb dX12_laidIn_32 (by decide) ?_
        exact J36 _ _ _ w_1 v31 hw hM (by omega) (by omega) f_a0_X12_20 f_v6_M_said_5 (lv_sub hl [0, 1, 2, 3] rfl)
  exact J4 _ _ _ _ ⟨ws, 0, 0, hw, hM, (by decide), (by decide), (by decide), (by decide), (lv_sub hl [2, 3, 1, 0] rfl), rfl⟩
set_option maxHeartbeats 4000000 in
set_option maxRecDepth 100000 in
theorem t_X12_least (l : Launch) (dC : Nat → ClassId) (dI : Nat → Nat → Nat) (tys : List (ClassId × FieldType)) (κ : tK) (B : Nat) (ws : va_W) (hT : Ty κ tys B ws) (a0 : Nat) (k_a0 : κ a0 = some 12) (a1 : Int32) (f0 : Nat) (k_f0 : κ f0 = some 63) (f_a0_X12_20 : fld ws a0 12 20 (.ref f0)) (f1 : Int32) (l_f1 : 0 ≤ f1.toInt) (h_f1 : f1.toInt ≤ 999) (f_f0_M_said_10 : elt ws f0 (10 : Int32).toInt.toNat f1) (sz : Nat) : Met l yX12_least (ws_u yX12_least cX12_least 5 (some .int)) ({ frames := 18, cells := 0, slots := 0, locals := 544 }) (va_Pc [.ref a0, .int a1] (cPre (dC, dI) tys ws sz)) (va_Qi (fun (r : Int32) (w : va_W) => (-2) ≤ r.toInt ∧ r.toInt ≤ 20 ∧ Ty κ tys B w ∧ Sm [(12, 18)] [61, 62, 63, 64] κ ws w ∧ elt w f0 (10 : Int32).toInt.toNat f1) (fun w t => cPost (dC, dI) tys w (va_A ws sz) t) (va_A ws sz)) 0 0 (va_A ws sz) := by
  refine Met.ofW (cc := cX12_least) (maxL := 5) (ret := (some .int)) (by decide) rfl ?_
  intro p e s m args below meth c s₁ B0 hml hv
  obtain ⟨rfl, hsz, hP, hK, hD0, hE⟩ := hv
  have hx := B0.exec
  have hb := B0.bytes
  have hr := B0.returns
  have hts0 := atoms_spec (ws := ws_u yX12_least cX12_least 5 (some .int)) B0.pre
  have hts : ∀ w ∈ gT, w.before _ s = true := fun w h => hts0 w (List.mem_cons_of_mem _ h)
  have hown : s.vm.findClass RX12 = some m.cls := findClass_of_methodNamed B0.named
  have hlocks := B0.notSynchronized
  subst hsz
  have hD := hD0.self (sz := s.heap.size)
  generalize hAe : va_A ws s.heap.size = A at hD ⊢
  have hA : ∀ q : Nat, s.heap.size ≤ q → A q := fun q h => by rw [← hAe]; exact Or.inr h
  have hw : tW (dC, dI) tys κ B A s ws s.heap [] := ⟨hK, hP, hD, va_S.rf, hT⟩
  have hM : Sm [(12, 18)] [61, 62, 63, 64] κ ws ws := Sm.rf
  clear hP hK hD hD0 hts0
  have l_a1 := i32_lo a1
  have h_a1 := i32_hi a1
  have hl := lv_entry ([.ref a0, .int a1]) (n := 5) (Nat.le_of_ble_eq_true rfl)
  rw [lg_entry_eq]
  generalize (lg_sl ([.ref a0, .int a1]) ++ List.replicate (5 - (lg_sl ([.ref a0, .int a1])).length) Slot.unset).toArray = ls at hl ⊢
  have hl : lv_has ls 5 [(0, .ref a0), (1, .int a1)] := hl
  refine t_start (fun QQ hQ => ?_)
  refine lv_aload_n hx hb dX12_least_0 rfl (lv_at hl 0 rfl) ?_
  refine lv_iload_n hx hb dX12_least_1 rfl (lv_at hl 1 rfl) ?_
  refine t_calli (va_runV (As := [.int a1]) (rest := []) ⟨hx, hb, hml, hown, hts⟩ (t_X12_isSound l dC dI tys κ B ws hw.2.2.2.2 a0 k_a0 a1 s.heap.size) (cwV 1 hts (gUV tw_1517 tw_1519 ts_6_3 tw_13 tw_1520) rfl rfl rfl (by decide +kernel) ⟨(Nat.le_of_ble_eq_true rfl), (Nat.le_of_ble_eq_true rfl)⟩) ⟨cPre.blind, t_recv hw (ci := 12) k_a0 rfl rfl, cPre.use hw.2.1 hw.1 hw.2.2.1 hE⟩ rfl rfl hl.1 rfl (lv_room (Nat.le_of_ble_eq_true rfl)) dX12_least_2 ⟨(Nat.le_of_ble_eq_true rfl), (Nat.le_of_ble_eq_true rfl)⟩) hw hA (fun _ _ h => h.2.2.1) (fun v2 w_1 H locs hp hw => ?_)
  obtain ⟨l_v2, h_v2, _, hm, x_v2_0⟩ := hp
  have hM := hM.trans hm (by decide) (by decide)
  have f_a0_X12_20 := hm.1 _ _ _ _ f_a0_X12_20 (by decide)
  have f_f0_M_said_10 := hm.elt k_f0 (by decide) f_f0_M_said_10
  refine lv_if_ne (tgt := 10) hx hb dX12_least_5 (by decide) (fun c_5 => ?_) (fun c_5 => ?_)
  · simp only [fa_lt, fa_le, fa_eq, li_0] at c_5
    refine lv_aload_n hx hb dX12_least_10 rfl (lv_at hl 0 rfl) ?_
    refine lv_iload_n hx hb dX12_least_11 rfl (lv_at hl 1 rfl) ?_
    refine lv_iconst (v := 1) hx hb dX12_least_12 (by decide) ?_
    refine t_calli (va_runV (As := [.int a1, .int 1]) (rest := []) ⟨hx, hb, hml, hown, hts⟩ (t_X12_boyOf l dC dI tys κ B w_1 hw.2.2.2.2 a0 k_a0 a1 (by omega) (by omega) 1 (by decide) (by decide) H.size) (cwV 2 hts (gUV tw_1453 tw_1455 ts_5_8 tw_13 tw_1456) rfl rfl rfl (by decide +kernel) ⟨(Nat.le_of_ble_eq_true rfl), (Nat.le_of_ble_eq_true rfl)⟩) ⟨cPre.blind, t_recv hw (ci := 12) k_a0 rfl rfl, cPre.use hw.2.1 hw.1 hw.2.2.1 hE⟩ rfl rfl hl.1 rfl (lv_room (Nat.le_of_ble_eq_true rfl)) dX12_least_13 ⟨(Nat.le_of_ble_eq_true rfl), (Nat.le_of_ble_eq_true rfl)⟩) hw hA (fun _ _ h => h.1) (fun v13 w_2 H locs hp hw => ?_)
    obtain ⟨_, hm⟩ := hp
    have l_v13 := i32_lo v13
    have h_v13 := i32_hi v13
    have hM := hM.trans hm (by decide) (by decide)
    have f_a0_X12_20 := hm.1 _ _ _ _ f_a0_X12_20 (by decide)
    have f_f0_M_said_10 := hm.elt k_f0 (by decide) f_f0_M_said_10
    refine lv_istore_n (lv' := [(2, .int v13), (0, .ref a0), (1, .int a1)]) hx hb dX12_least_16 rfl hl (by decide) rfl (fun ls hl => ?_)
    refine lv_bipush (v := (-2)) hx hb dX12_least_17 (by decide) ?_
    refine lv_istore_n (lv' := [(3, .int (-2)), (2, .int v13), (0, .ref a0), (1, .int a1)]) hx hb dX12_least_19 rfl hl (by decide) rfl (fun ls hl => ?_)
    refine lv_bipush (v := 20) hx hb dX12_least_20 (by decide) ?_
    refine lv_istore (lv' := [(4, .int 20), (3, .int (-2)), (2, .int v13), (0, .ref a0), (1, .int a1)]) hx hb dX12_least_22 hl (by decide) rfl (fun ls hl => ?_)
    have J24 : ∀ (n : Nat) (H : Heap) (locs : List Loc) (ls : Array Slot), (∃ (w24 : va_W) (p24_l3 : Int32) (p24_l4 : Int32), tW (dC, dI) tys κ B A s w24 H locs ∧ Sm [(12, 18)] [61, 62, 63, 64] κ ws w24 ∧ (-2) ≤ p24_l3.toInt ∧ p24_l3.toInt ≤ 20 ∧ (-1) ≤ p24_l4.toInt ∧ p24_l4.toInt ≤ 20 ∧ fld w24 a0 12 20 (.ref f0) ∧ elt w24 f0 (10 : Int32).toInt.toNat f1 ∧ lv_has ls 5 [(0, .ref a0), (1, .int a1), (2, .int v13), (3, .int p24_l3), (4, .int p24_l4)] ∧ (p24_l4.toInt - (-1)).toNat = n) → W p l e (headSpec (ws_u yX12_least cX12_least 5 (some .int)) ({ frames := 18, cells := 0, slots := 0, locals := 544 })).room s m ([.ref a0, .int a1] : List Value).toArray below meth c H locs 0 0 QQ (F0 m 24 ls []) := by
      refine loopT _ ?_
      intro n_24 H locs ls hI ih_24
      obtain ⟨w24, p24_l3, p24_l4, hw, hM, l_p24_l3, h_p24_l3, l_p24_l4, h_p24_l4, f_a0_X12_20, f_f0_M_said_10, hl, hn_24⟩ := hI
      refine lv_iload hx hb dX12_least_24 (lv_at hl 4 rfl) ?_
      refine lv_if_lt (tgt := 61) hx hb dX12_least_26 (by decide) (fun c_26 => ?_) (fun c_26 => ?_)
      · simp only [fa_lt, fa_le, fa_eq, li_0] at c_26
        refine lv_aload_n hx hb dX12_least_61 rfl (lv_at hl 0 rfl) ?_
        refine t_getk (ci := 12) (C := RX12) (T := TX12) (N := 38) hx hb hts iX12 hown hw rfl 20 (by decide) (hts _ tw_1145) (fun _ h9 => h9) dX12_least_62 f_a0_X12_20 ?_
        refine lv_bipush (v := 16) hx hb dX12_least_65 (by decide) ?_
        refine lv_iconst (v := 3) hx hb dX12_least_67 (by decide) ?_
        refine lv_iload_n hx hb dX12_least_68 rfl (lv_at hl 1 rfl) ?_
        refine lv_imul hx hb dX12_least_69 ?_
        refine lv_topi (fun v69 e_v69 => ?_)
        have e_v69 : v69.toInt = 3 * a1.toInt := ml_i e_v69 li_3 rfl (by omega) (by omega)
        refine lv_iadd hx hb dX12_least_70 ?_
        refine lv_topi (fun v70 e_v70 => ?_)
        have e_v70 : v70.toInt = 16 + v69.toInt := ad_i e_v70 li_16 rfl (by omega) (by omega)
        refine lv_iconst (v := 1) hx hb dX12_least_71 (by decide) ?_
        refine lv_iadd hx hb dX12_least_72 ?_
        refine lv_topi (fun v72 e_v72 => ?_)
        have e_v72 : v72.toInt = v70.toInt + 1 := ad_i e_v72 rfl li_1 (by omega) (by omega)
        refine lv_iload_n hx hb dX12_least_73 rfl (lv_at hl 2 rfl) ?_
        refine t_iast hx hb hw k_f0 rfl rfl (by omega) (show v72.toInt < 306 by omega) (by rw [fr_63 (by omega) (by omega)]; exact i32_lo _) (by rw [fr_63 (by omega) (by omega)]; exact i32_hi _) dX12_least_74 (fun w_3 H locs hw u => ?_)
        have hM := hM.up3 u k_f0 (by decide)
        have f_a0_X12_20 := u.1 _ _ _ _ f_a0_X12_20
        have f_f0_M_said_10 := u.2.2.1 _ _ _ f_f0_M_said_10 (Or.inr (by rw [show (10 : Int32).toInt.toNat = 10 by decide]; omega))
        refine lv_iload_n hx hb dX12_least_75 rfl (lv_at hl 3 rfl) ?_
        rw [hQ]
        refine W.widen (k := 0) (n := 0) (Nat.le_refl _) (Nat.le_refl _) ?_
        exact W.iret (v := p24_l3) hx hb hr (fun t ht hW => ⟨⟨p24_l3, w_3, rfl, ⟨(by omega), (by omega), hw.2.2.2.2, hM, f_f0_M_said_10⟩, by rw [ht]; exact hw.2.1, va_K.moved hW.alike hw.1, hw.2.2.1⟩, hw.2.2.2.1.F ht⟩) hw.2.2.2.1.2.2 dX12_least_76
      · simp only [fa_lt, fa_le, fa_eq, li_0] at c_26
        refine lv_aload_n hx hb dX12_least_29 rfl (lv_at hl 0 rfl) ?_
        refine t_getk (ci := 12) (C := RX12) (T := TX12) (N := 38) hx hb hts iX12 hown hw rfl 20 (by decide) (hts _ tw_1145) (fun _ h9 => h9) dX12_least_30 f_a0_X12_20 ?_
        refine lv_bipush (v := 16) hx hb dX12_least_33 (by decide) ?_
        refine lv_iconst (v := 3) hx hb dX12_least_35 (by decide) ?_
        refine lv_iload_n hx hb dX12_least_36 rfl (lv_at hl 1 rfl) ?_
        refine lv_imul hx hb dX12_least_37 ?_
        refine lv_topi (fun v37 e_v37 => ?_)
        have e_v37 : v37.toInt = 3 * a1.toInt := ml_i e_v37 li_3 rfl (by omega) (by omega)
        refine lv_iadd hx hb dX12_least_38 ?_
        refine lv_topi (fun v38 e_v38 => ?_)
        have e_v38 : v38.toInt = 16 + v37.toInt := ad_i e_v38 li_16 rfl (by omega) (by omega)
        refine lv_iconst (v := 1) hx hb dX12_least_39 (by decide) ?_
        refine lv_iadd hx hb dX12_least_40 ?_
        refine lv_topi (fun v40 e_v40 => ?_)
        have e_v40 : v40.toInt = v38.toInt + 1 := ad_i e_v40 rfl li_1 (by omega) (by omega)
        refine lv_iload hx hb dX12_least_41 (lv_at hl 4 rfl) ?_
        refine t_iast hx hb hw k_f0 rfl rfl (by omega) (show v40.toInt < 306 by omega) (by rw [fr_63 (by omega) (by omega)]; exact i32_lo _) (by rw [fr_63 (by omega) (by omega)]; exact i32_hi _) dX12_least_43 (fun w_4 H locs hw u => ?_)
        have hM := hM.up3 u k_f0 (by decide)
        have f_a0_X12_20 := u.1 _ _ _ _ f_a0_X12_20
        have f_f0_M_said_10 := u.2.2.1 _ _ _ f_f0_M_said_10 (Or.inr (by rw [show (10 : Int32).toInt.toNat = 10 by decide]; omega))
        refine lv_aload_n hx hb dX12_least_44 rfl (lv_at hl 0 rfl) ?_
        refine t_calli (va_runV (As := []) (rest := []) ⟨hx, hb, hml, hown, hts⟩ (t_X12_chosen l dC dI tys κ B w_4 hw.2.2.2.2 a0 k_a0 H.size) (cwV 0 hts (gUV tw_1505 tw_1507 ts_6_0 tw_13 tw_1508) rfl rfl rfl (by decide +kernel) ⟨(Nat.le_of_ble_eq_true rfl), (Nat.le_of_ble_eq_true rfl)⟩) ⟨cPre.blind, t_recv hw (ci := 12) k_a0 rfl rfl, cPre.use hw.2.1 hw.1 hw.2.2.1 hE⟩ rfl rfl hl.1 rfl (lv_room (Nat.le_of_ble_eq_true rfl)) dX12_least_45 ⟨(Nat.le_of_ble_eq_true rfl), (Nat.le_of_ble_eq_true rfl)⟩) hw hA (fun _ _ h => h.2.2.1) (fun v45 w_5 H locs hp hw => ?_)
        obtain ⟨l_v45, h_v45, _, hm⟩ := hp
        have hM := hM.trans hm (by decide) (by decide)
        have f_a0_X12_20 := hm.1 _ _ _ _ f_a0_X12_20 (by decide)
        have f_f0_M_said_10 := hm.elt k_f0 (by decide) f_f0_M_said_10
        refine lv_iload_n hx hb dX12_least_48 rfl (lv_at hl 1 rfl) ?_
        have J55 : ∀ (H : Heap) (locs : List Loc) (ls : Array Slot) (w55 : va_W) (p55_l3 : Int32), tW (dC, dI) tys κ B A s w55 H locs → Sm [(12, 18)] [61, 62, 63, 64] κ ws w55 → (-2) ≤ p55_l3.toInt → p55_l3.toInt ≤ 20 → fld w55 a0 12 20 (.ref f0) → elt w55 f0 (10 : Int32).toInt.toNat f1 → lv_has ls 5 [(0, .ref a0), (1, .int a1), (2, .int v13), (3, .int p55_l3), (4, .int p24_l4)] → W p l e (headSpec (ws_u yX12_least cX12_least 5 (some .int)) ({ frames := 18, cells := 0, slots := 0, locals := 544 })).room s m ([.ref a0, .int a1] : List Value).toArray below meth c H locs 0 0 QQ (F0 m 55 ls []) := by
          intro H locs ls w55 p55_l3 hw hM l_p55_l3 h_p55_l3 f_a0_X12_20 f_f0_M_said_10 hl
          obtain ⟨v55, e_v55⟩ : ∃ y : Int32, y = p24_l4 + (-1) := ⟨_, rfl⟩
          refine lv_iinc (v := v55) (lv' := [(4, .int v55), (0, .ref a0), (1, .int a1), (2, .int v13), (3, .int p55_l3)]) hx hb dX12_least_55 hl (k := 4) rfl e_v55.symm (by decide) rfl (fun ls hl => ?_)
          have e_v55 : v55.toInt = p24_l4.toInt + (-1) := ad_i e_v55 rfl li_m1 (by omega) (by omega)
          refine lv_goto (tgt := 24) hx hb dX12_least_58 (by decide) ?_
          exact ih_24 _ _ _ _ (by omega) ⟨w55, p55_l3, v55, hw, hM, (by omega), (by omega), (by omega), (by omega), f_a0_X12_20, f_f0_M_said_10, (lv_sub hl [1, 2, 3, 4, 0] rfl), rfl⟩
        refine lv_icmp_ne (tgt := 55) hx hb dX12_least_49 (by decide) (fun c_49 => ?_) (fun c_49 => ?_)
        · simp only [fa_lt, fa_le, fa_eq] at c_49
          exact J55 _ _ _ w_5 p24_l3 hw hM (by omega) (by omega) f_a0_X12_20 f_f0_M_said_10 (lv_sub hl [0, 1, 2, 3, 4] rfl)
        · simp only [fa_lt, fa_le, fa_eq] at c_49
          refine lv_iload hx hb dX12_least_52 (lv_at hl 4 rfl) ?_
          refine lv_istore_n (lv' := [(3, .int p24_l4), (0, .ref a0), (1, .int a1), (2, .int v13), (4, .int p24_l4)]) hx hb dX12_least_54 rfl hl (by decide) rfl (fun ls hl => ?_)
          exact J55 _ _ _ w_5 p24_l4 hw hM (by omega) (by omega) f_a0_X12_20 f_f0_M_said_10 (lv_sub hl [1, 2, 3, 0, 4] rfl)
    exact J24 _ _ _ _ ⟨w_2, (-2), 20, hw, hM, (by decide), (by decide), (by decide), (by decide), f_a0_X12_20, f_f0_M_said_10, (lv_sub hl [3, 4, 2, 1, 0] rfl), rfl⟩
  · simp only [fa_lt, fa_le, fa_eq, li_0] at c_5
    refine lv_iconst (v := (-1)) hx hb dX12_least_8 (by decide) ?_
    rw [hQ]
    refine W.widen (k := 0) (n := 0) (Nat.le_refl _) (Nat.le_refl _) ?_
    exact W.iret (v := (-1)) hx hb hr (fun t ht hW => ⟨⟨(-1), w_1, rfl, ⟨(by decide), (by decide), hw.2.2.2.2, hM, f_f0_M_said_10⟩, by rw [ht]; exact hw.2.1, va_K.moved hW.alike hw.1, hw.2.2.1⟩, hw.2.2.2.1.F ht⟩) hw.2.2.2.1.2.2 dX12_least_9
set_option maxHeartbeats 4000000 in
set_option maxRecDepth 100000 in
theorem t_X12_likely (l : Launch) (dC : Nat → ClassId) (dI : Nat → Nat → Nat) (tys : List (ClassId × FieldType)) (κ : tK) (B : Nat) (ws : va_W) (hT : Ty κ tys B ws) (a0 : Nat) (k_a0 : κ a0 = some 12) (a1 : Int32) (a2 : Int32) (sz : Nat) : Met l yX12_likely (ws_u yX12_likely cX12_likely 5 (some .int)) ({ frames := 2, cells := 0, slots := 0, locals := 43 }) (va_Pc [.ref a0, .int a1, .int a2] (cPre (dC, dI) tys ws sz)) (va_Qi (fun (r : Int32) (w : va_W) => Ty κ tys B w ∧ Sm [] [] κ ws w) (fun w t => cPost (dC, dI) tys w (va_A ws sz) t) (va_A ws sz)) 0 0 (va_A ws sz) := by
  refine Met.ofW (cc := cX12_likely) (maxL := 5) (ret := (some .int)) (by decide) rfl ?_
  intro p e s m args below meth c s₁ B0 hml hv
  obtain ⟨rfl, hsz, hP, hK, hD0, hE⟩ := hv
  have hx := B0.exec
  have hb := B0.bytes
  have hr := B0.returns
  have hts0 := atoms_spec (ws := ws_u yX12_likely cX12_likely 5 (some .int)) B0.pre
  have hts : ∀ w ∈ gT, w.before _ s = true := fun w h => hts0 w (List.mem_cons_of_mem _ h)
  have hown : s.vm.findClass RX12 = some m.cls := findClass_of_methodNamed B0.named
  have hlocks := B0.notSynchronized
  subst hsz
  have hD := hD0.self (sz := s.heap.size)
  generalize hAe : va_A ws s.heap.size = A at hD ⊢
  have hA : ∀ q : Nat, s.heap.size ≤ q → A q := fun q h => by rw [← hAe]; exact Or.inr h
  have hw : tW (dC, dI) tys κ B A s ws s.heap [] := ⟨hK, hP, hD, va_S.rf, hT⟩
  have hM : Sm [] [] κ ws ws := Sm.rf
  clear hP hK hD hD0 hts0
  have l_a1 := i32_lo a1
  have h_a1 := i32_hi a1
  have l_a2 := i32_lo a2
  have h_a2 := i32_hi a2
  have hl := lv_entry ([.ref a0, .int a1, .int a2]) (n := 5) (Nat.le_of_ble_eq_true rfl)
  rw [lg_entry_eq]
  generalize (lg_sl ([.ref a0, .int a1, .int a2]) ++ List.replicate (5 - (lg_sl ([.ref a0, .int a1, .int a2])).length) Slot.unset).toArray = ls at hl ⊢
  have hl : lv_has ls 5 [(0, .ref a0), (1, .int a1), (2, .int a2)] := hl
  refine t_start (fun QQ hQ => ?_)
  refine lv_aload_n hx hb dX12_likely_0 rfl (lv_at hl 0 rfl) ?_
  refine lv_iload_n hx hb dX12_likely_1 rfl (lv_at hl 1 rfl) ?_
  refine t_calli (va_runV (As := [.int a1]) (rest := []) ⟨hx, hb, hml, hown, hts⟩ (t_X12_isAlive l dC dI tys κ B ws hw.2.2.2.2 a0 k_a0 a1 s.heap.size) (cwV 1 hts (gUV tw_1571 tw_1573 ts_6_15 tw_13 tw_1574) rfl rfl rfl (by decide +kernel) ⟨(Nat.le_of_ble_eq_true rfl), (Nat.le_of_ble_eq_true rfl)⟩) ⟨cPre.blind, t_recv hw (ci := 12) k_a0 rfl rfl, cPre.use hw.2.1 hw.1 hw.2.2.1 hE⟩ rfl rfl hl.1 rfl (lv_room (Nat.le_of_ble_eq_true rfl)) dX12_likely_2 ⟨(Nat.le_of_ble_eq_true rfl), (Nat.le_of_ble_eq_true rfl)⟩) hw hA (fun _ _ h => h.2.2.1) (fun v2 w_1 H locs hp hw => ?_)
  obtain ⟨l_v2, h_v2, _, hm, x_v2_0⟩ := hp
  have hM := hM.trans hm (by decide) (by decide)
  refine lv_if_eq (tgt := 20) hx hb dX12_likely_5 (by decide) (fun c_5 => ?_) (fun c_5 => ?_)
  · simp only [fa_lt, fa_le, fa_eq, li_0] at c_5
    refine lv_iconst (v := (-1)) hx hb dX12_likely_20 (by decide) ?_
    rw [hQ]
    refine W.widen (k := 0) (n := 0) (Nat.le_refl _) (Nat.le_refl _) ?_
    exact W.iret (v := (-1)) hx hb hr (fun t ht hW => ⟨⟨(-1), w_1, rfl, ⟨hw.2.2.2.2, hM⟩, by rw [ht]; exact hw.2.1, va_K.moved hW.alike hw.1, hw.2.2.1⟩, hw.2.2.2.1.F ht⟩) hw.2.2.2.1.2.2 dX12_likely_21
  · simp only [fa_lt, fa_le, fa_eq, li_0] at c_5
    refine lv_iload_n hx hb dX12_likely_8 rfl (lv_at hl 2 rfl) ?_
    refine lv_i2l hx hb dX12_likely_9 rfl ?_
    refine lv_topl (fun v9 e_v9 => ?_)
    have t_v9 : v9.toInt = a2.toInt := by rw [e_v9, Int32.toInt_toInt64]
    refine lv_lconst (v := 1) hx hb dX12_likely_10 (by decide) ?_
    obtain ⟨v10, e_v10⟩ : ∃ y : Int64, y = 1 := ⟨_, rfl⟩
    refine W.eq (g2 := F0 m 11 ls [.long v10, .long v9]) (by rw [e_v10]) ?_
    have t_v10 : v10.toInt = 1 := by rw [e_v10]; decide
    refine lv_ldc2 (v := 60) hx hb hown (hts _ tw_1596) dX12_likely_11 ?_
    refine lv_topl (fun v11 e_v11 => ?_)
    have t_v11 : v11.toInt = 60 := by rw [e_v11]; decide
    refine t_calli (va_runS (As := [.long v9, .long v10, .long v11]) (rest := []) ⟨hx, hb, hml, hown, hts⟩ (t_X12_in l dC dI tys κ B w_1 hw.2.2.2.2 v9 v10 v11 H.size) (va_cwS 3 hts (gUS tw_1316 tw_1317 tw_13 tw_1318) rfl rfl rfl (by decide +kernel) ⟨(Nat.le_of_ble_eq_true rfl), (Nat.le_of_ble_eq_true rfl)⟩) ⟨cPre.blind, cPre.use hw.2.1 hw.1 hw.2.2.1 hE⟩ rfl rfl hl.1 rfl (lv_room (Nat.le_of_ble_eq_true rfl)) dX12_likely_14 ⟨(Nat.le_of_ble_eq_true rfl), (Nat.le_of_ble_eq_true rfl)⟩) hw hA (fun _ _ h => h.2.2.1) (fun v14 w_2 H locs hp hw => ?_)
    obtain ⟨l_v14, h_v14, _, hm, x_v14_0⟩ := hp
    have hM := hM.trans hm (by decide) (by decide)
    refine lv_if_ne (tgt := 22) hx hb dX12_likely_17 (by decide) (fun c_17 => ?_) (fun c_17 => ?_)
    · simp only [fa_lt, fa_le, fa_eq, li_0] at c_17
      refine lv_sipush (v := 10000) hx hb dX12_likely_22 (by decide) ?_
      refine lv_istore_n (lv' := [(3, .int 10000), (0, .ref a0), (1, .int a1), (2, .int a2)]) hx hb dX12_likely_25 rfl hl (by decide) rfl (fun ls hl => ?_)
      refine lv_iconst (v := 0) hx hb dX12_likely_26 (by decide) ?_
      refine lv_istore (lv' := [(4, .int 0), (3, .int 10000), (0, .ref a0), (1, .int a1), (2, .int a2)]) hx hb dX12_likely_27 hl (by decide) rfl (fun ls hl => ?_)
      have J29 : ∀ (n : Nat) (H : Heap) (locs : List Loc) (ls : Array Slot), (∃ (w29 : va_W) (p29_l3 : Int32) (p29_l4 : Int32), tW (dC, dI) tys κ B A s w29 H locs ∧ Sm [] [] κ ws w29 ∧ (-2147483648) ≤ p29_l3.toInt ∧ p29_l3.toInt ≤ 2147483647 ∧ 0 ≤ p29_l4.toInt ∧ p29_l4.toInt ≤ 60 ∧ lv_has ls 5 [(0, .ref a0), (1, .int a1), (2, .int a2), (3, .int p29_l3), (4, .int p29_l4)] ∧ (60 - p29_l4.toInt).toNat = n) → W p l e (headSpec (ws_u yX12_likely cX12_likely 5 (some .int)) ({ frames := 2, cells := 0, slots := 0, locals := 43 })).room s m ([.ref a0, .int a1, .int a2] : List Value).toArray below meth c H locs 0 0 QQ (F0 m 29 ls []) := by
        refine loopT _ ?_
        intro n_29 H locs ls hI ih_29
        obtain ⟨w29, p29_l3, p29_l4, hw, hM, l_p29_l3, h_p29_l3, l_p29_l4, h_p29_l4, hl, hn_29⟩ := hI
        refine lv_iload hx hb dX12_likely_29 (lv_at hl 4 rfl) ?_
        refine lv_iload_n hx hb dX12_likely_31 rfl (lv_at hl 2 rfl) ?_
        refine lv_icmp_ge (tgt := 60) hx hb dX12_likely_32 (by decide) (fun c_32 => ?_) (fun c_32 => ?_)
        · simp only [fa_lt, fa_le, fa_eq] at c_32
          refine lv_sipush (v := 10000) hx hb dX12_likely_60 (by decide) ?_
          refine lv_iload_n hx hb dX12_likely_63 rfl (lv_at hl 3 rfl) ?_
          refine lv_isub hx hb dX12_likely_64 ?_
          refine lv_topi (fun v64 e_v64 => ?_)
          have l_v64 := i32_lo v64
          have h_v64 := i32_hi v64
          rw [hQ]
          refine W.widen (k := 0) (n := 0) (Nat.le_refl _) (Nat.le_refl _) ?_
          exact W.iret (v := v64) hx hb hr (fun t ht hW => ⟨⟨v64, w29, rfl, ⟨hw.2.2.2.2, hM⟩, by rw [ht]; exact hw.2.1, va_K.moved hW.alike hw.1, hw.2.2.1⟩, hw.2.2.2.1.F ht⟩) hw.2.2.2.1.2.2 dX12_likely_65
        · simp only [fa_lt, fa_le, fa_eq] at c_32
          refine lv_iload_n hx hb dX12_likely_35 rfl (lv_at hl 3 rfl) ?_
          refine lv_iload_n hx hb dX12_likely_36 rfl (lv_at hl 3 rfl) ?_
          refine lv_aload_n hx hb dX12_likely_37 rfl (lv_at hl 0 rfl) ?_
          refine lv_iload_n hx hb dX12_likely_38 rfl (lv_at hl 1 rfl) ?_
          refine lv_iconst (v := 0) hx hb dX12_likely_39 (by decide) ?_
          refine t_calli (va_runV (As := [.int a1, .int 0]) (rest := [.int p29_l3, .int p29_l3]) ⟨hx, hb, hml, hown, hts⟩ (t_X12_canonOf l dC dI tys κ B w29 hw.2.2.2.2 a0 k_a0 a1 (by omega) (by omega) 0 (by decide) (by decide) H.size) (cwV 2 hts (gUV tw_1469 tw_1471 ts_5_10 tw_13 tw_1472) rfl rfl rfl (by decide +kernel) ⟨(Nat.le_of_ble_eq_true rfl), (Nat.le_of_ble_eq_true rfl)⟩) ⟨cPre.blind, t_recv hw (ci := 12) k_a0 rfl rfl, cPre.use hw.2.1 hw.1 hw.2.2.1 hE⟩ rfl rfl hl.1 rfl (lv_room (Nat.le_of_ble_eq_true rfl)) dX12_likely_40 ⟨(Nat.le_of_ble_eq_true rfl), (Nat.le_of_ble_eq_true rfl)⟩) hw hA (fun _ _ h => h.1) (fun v40 w_3 H locs hp hw => ?_)
          obtain ⟨_, hm⟩ := hp
          have l_v40 := i32_lo v40
          have h_v40 := i32_hi v40
          have hM := hM.trans hm (by decide) (by decide)
          refine lv_imul hx hb dX12_likely_43 ?_
          refine lv_topi (fun v43 e_v43 => ?_)
          have l_v43 := i32_lo v43
          have h_v43 := i32_hi v43
          refine lv_sipush (v := 999) hx hb dX12_likely_44 (by decide) ?_
          refine lv_iadd hx hb dX12_likely_47 ?_
          refine lv_topi (fun v47 e_v47 => ?_)
          have l_v47 := i32_lo v47
          have h_v47 := i32_hi v47
          refine lv_sipush (v := 1000) hx hb dX12_likely_48 (by decide) ?_
          refine lv_idiv hx hb dX12_likely_51 (ne_i li_1000 (by decide)) ?_
          refine lv_topi (fun v51 e_v51 => ?_)
          have l_v51 := i32_lo v51
          have h_v51 := i32_hi v51
          refine lv_isub hx hb dX12_likely_52 ?_
          refine lv_topi (fun v52 e_v52 => ?_)
          have l_v52 := i32_lo v52
          have h_v52 := i32_hi v52
          refine lv_istore_n (lv' := [(3, .int v52), (0, .ref a0), (1, .int a1), (2, .int a2), (4, .int p29_l4)]) hx hb dX12_likely_53 rfl hl (by decide) rfl (fun ls hl => ?_)
          obtain ⟨v54, e_v54⟩ : ∃ y : Int32, y = p29_l4 + 1 := ⟨_, rfl⟩
          refine lv_iinc (v := v54) (lv' := [(4, .int v54), (3, .int v52), (0, .ref a0), (1, .int a1), (2, .int a2)]) hx hb dX12_likely_54 hl (k := 4) rfl e_v54.symm (by decide) rfl (fun ls hl => ?_)
          have e_v54 : v54.toInt = p29_l4.toInt + 1 := ad_i e_v54 rfl li_1 (by omega) (by omega)
          refine lv_goto (tgt := 29) hx hb dX12_likely_57 (by decide) ?_
          exact ih_29 _ _ _ _ (by omega) ⟨w_3, v52, v54, hw, hM, (by omega), (by omega), (by omega), (by omega), (lv_sub hl [2, 3, 4, 1, 0] rfl), rfl⟩
      exact J29 _ _ _ _ ⟨w_2, 10000, 0, hw, hM, (by decide), (by decide), (by decide), (by decide), (lv_sub hl [2, 3, 4, 1, 0] rfl), rfl⟩
    · simp only [fa_lt, fa_le, fa_eq, li_0] at c_17
      refine lv_iconst (v := (-1)) hx hb dX12_likely_20 (by decide) ?_
      rw [hQ]
      refine W.widen (k := 0) (n := 0) (Nat.le_refl _) (Nat.le_refl _) ?_
      exact W.iret (v := (-1)) hx hb hr (fun t ht hW => ⟨⟨(-1), w_2, rfl, ⟨hw.2.2.2.2, hM⟩, by rw [ht]; exact hw.2.1, va_K.moved hW.alike hw.1, hw.2.2.1⟩, hw.2.2.2.1.F ht⟩) hw.2.2.2.1.2.2 dX12_likely_21
set_option maxHeartbeats 4000000 in
set_option maxRecDepth 100000 in
theorem t_X12_likes (l : Launch) (dC : Nat → ClassId) (dI : Nat → Nat → Nat) (tys : List (ClassId × FieldType)) (κ : tK) (B : Nat) (ws : va_W) (hT : Ty κ tys B ws) (a0 : Nat) (k_a0 : κ a0 = some 12) (a1 : Int32) (a2 : Int32) (sz : Nat) : Met l yX12_likes (ws_u yX12_likes cX12_likes 3 (some .int)) ({ frames := 1, cells := 0, slots := 0, locals := 21 }) (va_Pc [.ref a0, .int a1, .int a2] (cPre (dC, dI) tys ws sz)) (va_Qi (fun (r : Int32) (w : va_W) => Ty κ tys B w ∧ Sm [] [] κ ws w) (fun w t => cPost (dC, dI) tys w (va_A ws sz) t) (va_A ws sz)) 0 0 (va_A ws sz) := by
  refine Met.ofW (cc := cX12_likes) (maxL := 3) (ret := (some .int)) (by decide) rfl ?_
  intro p e s m args below meth c s₁ B0 hml hv
  obtain ⟨rfl, hsz, hP, hK, hD0, hE⟩ := hv
  have hx := B0.exec
  have hb := B0.bytes
  have hr := B0.returns
  have hts0 := atoms_spec (ws := ws_u yX12_likes cX12_likes 3 (some .int)) B0.pre
  have hts : ∀ w ∈ gT, w.before _ s = true := fun w h => hts0 w (List.mem_cons_of_mem _ h)
  have hown : s.vm.findClass RX12 = some m.cls := findClass_of_methodNamed B0.named
  have hlocks := B0.notSynchronized
  subst hsz
  have hD := hD0.self (sz := s.heap.size)
  generalize hAe : va_A ws s.heap.size = A at hD ⊢
  have hA : ∀ q : Nat, s.heap.size ≤ q → A q := fun q h => by rw [← hAe]; exact Or.inr h
  have hw : tW (dC, dI) tys κ B A s ws s.heap [] := ⟨hK, hP, hD, va_S.rf, hT⟩
  have hM : Sm [] [] κ ws ws := Sm.rf
  clear hP hK hD hD0 hts0
  have l_a1 := i32_lo a1
  have h_a1 := i32_hi a1
  have l_a2 := i32_lo a2
  have h_a2 := i32_hi a2
  have hl := lv_entry ([.ref a0, .int a1, .int a2]) (n := 3) (Nat.le_of_ble_eq_true rfl)
  rw [lg_entry_eq]
  generalize (lg_sl ([.ref a0, .int a1, .int a2]) ++ List.replicate (3 - (lg_sl ([.ref a0, .int a1, .int a2])).length) Slot.unset).toArray = ls at hl ⊢
  have hl : lv_has ls 3 [(0, .ref a0), (1, .int a1), (2, .int a2)] := hl
  refine t_start (fun QQ hQ => ?_)
  refine lv_aload_n hx hb dX12_likes_0 rfl (lv_at hl 0 rfl) ?_
  refine lv_iload_n hx hb dX12_likes_1 rfl (lv_at hl 1 rfl) ?_
  refine t_calli (va_runV (As := [.int a1]) (rest := []) ⟨hx, hb, hml, hown, hts⟩ (t_X12_isBoy l dC dI tys κ B ws hw.2.2.2.2 a0 k_a0 a1 s.heap.size) (cwV 1 hts (gUV tw_1448 tw_1450 ts_5_7 tw_13 tw_1451) rfl rfl rfl (by decide +kernel) ⟨(Nat.le_of_ble_eq_true rfl), (Nat.le_of_ble_eq_true rfl)⟩) ⟨cPre.blind, t_recv hw (ci := 12) k_a0 rfl rfl, cPre.use hw.2.1 hw.1 hw.2.2.1 hE⟩ rfl rfl hl.1 rfl (lv_room (Nat.le_of_ble_eq_true rfl)) dX12_likes_2 ⟨(Nat.le_of_ble_eq_true rfl), (Nat.le_of_ble_eq_true rfl)⟩) hw hA (fun _ _ h => h.2.2.1) (fun v2 w_1 H locs hp hw => ?_)
  obtain ⟨l_v2, h_v2, _, hm, x_v2_0⟩ := hp
  have hM := hM.trans hm (by decide) (by decide)
  refine lv_if_eq (tgt := 33) hx hb dX12_likes_5 (by decide) (fun c_5 => ?_) (fun c_5 => ?_)
  · simp only [fa_lt, fa_le, fa_eq, li_0] at c_5
    refine lv_iconst (v := (-1)) hx hb dX12_likes_33 (by decide) ?_
    rw [hQ]
    refine W.widen (k := 0) (n := 0) (Nat.le_refl _) (Nat.le_refl _) ?_
    exact W.iret (v := (-1)) hx hb hr (fun t ht hW => ⟨⟨(-1), w_1, rfl, ⟨hw.2.2.2.2, hM⟩, by rw [ht]; exact hw.2.1, va_K.moved hW.alike hw.1, hw.2.2.1⟩, hw.2.2.2.1.F ht⟩) hw.2.2.2.1.2.2 dX12_likes_34
  · simp only [fa_lt, fa_le, fa_eq, li_0] at c_5
    refine lv_aload_n hx hb dX12_likes_8 rfl (lv_at hl 0 rfl) ?_
    refine lv_iload_n hx hb dX12_likes_9 rfl (lv_at hl 2 rfl) ?_
    refine t_calli (va_runV (As := [.int a2]) (rest := []) ⟨hx, hb, hml, hown, hts⟩ (t_X12_isBoy l dC dI tys κ B w_1 hw.2.2.2.2 a0 k_a0 a2 H.size) (cwV 1 hts (gUV tw_1448 tw_1450 ts_5_7 tw_13 tw_1451) rfl rfl rfl (by decide +kernel) ⟨(Nat.le_of_ble_eq_true rfl), (Nat.le_of_ble_eq_true rfl)⟩) ⟨cPre.blind, t_recv hw (ci := 12) k_a0 rfl rfl, cPre.use hw.2.1 hw.1 hw.2.2.1 hE⟩ rfl rfl hl.1 rfl (lv_room (Nat.le_of_ble_eq_true rfl)) dX12_likes_10 ⟨(Nat.le_of_ble_eq_true rfl), (Nat.le_of_ble_eq_true rfl)⟩) hw hA (fun _ _ h => h.2.2.1) (fun v10 w_2 H locs hp hw => ?_)
    obtain ⟨l_v10, h_v10, _, hm, x_v10_0⟩ := hp
    have hM := hM.trans hm (by decide) (by decide)
    refine lv_if_eq (tgt := 33) hx hb dX12_likes_13 (by decide) (fun c_13 => ?_) (fun c_13 => ?_)
    · simp only [fa_lt, fa_le, fa_eq, li_0] at c_13
      refine lv_iconst (v := (-1)) hx hb dX12_likes_33 (by decide) ?_
      rw [hQ]
      refine W.widen (k := 0) (n := 0) (Nat.le_refl _) (Nat.le_refl _) ?_
      exact W.iret (v := (-1)) hx hb hr (fun t ht hW => ⟨⟨(-1), w_2, rfl, ⟨hw.2.2.2.2, hM⟩, by rw [ht]; exact hw.2.1, va_K.moved hW.alike hw.1, hw.2.2.1⟩, hw.2.2.2.1.F ht⟩) hw.2.2.2.1.2.2 dX12_likes_34
    · simp only [fa_lt, fa_le, fa_eq, li_0] at c_13
      refine lv_aload_n hx hb dX12_likes_16 rfl (lv_at hl 0 rfl) ?_
      refine t_getr (k1 := 63) (ci := 12) (C := RX12) (T := TX12) (N := 38) hx hb hts iX12 hown hw k_a0 rfl rfl rfl 20 (by decide) (hts _ tw_1145) (fun _ h9 => h9) dX12_likes_17 rfl (fun v17 k_v17 f_a0_X12_20 => ?_)
      refine lv_bipush (v := 70) hx hb dX12_likes_20 (by decide) ?_
      refine lv_bipush (v := 6) hx hb dX12_likes_22 (by decide) ?_
      refine lv_iload_n hx hb dX12_likes_24 rfl (lv_at hl 1 rfl) ?_
      refine lv_imul hx hb dX12_likes_25 ?_
      refine lv_topi (fun v25 e_v25 => ?_)
      have e_v25 : v25.toInt = 6 * a1.toInt := ml_i e_v25 li_6 rfl (by omega) (by omega)
      refine lv_iadd hx hb dX12_likes_26 ?_
      refine lv_topi (fun v26 e_v26 => ?_)
      have e_v26 : v26.toInt = 70 + v25.toInt := ad_i e_v26 li_70 rfl (by omega) (by omega)
      refine lv_iload_n hx hb dX12_likes_27 rfl (lv_at hl 2 rfl) ?_
      refine lv_iadd hx hb dX12_likes_28 ?_
      refine lv_topi (fun v28 e_v28 => ?_)
      have e_v28 : v28.toInt = v26.toInt + a2.toInt := ad_i e_v28 rfl rfl (by omega) (by omega)
      refine t_iald hx hb hw k_v17 rfl rfl (by omega) (show v28.toInt < 306 by omega) dX12_likes_29 (fun v29 r_v29 s_v29 q_v29 => ?_)
      have l_v29 := i32_lo v29
      have h_v29 := i32_hi v29
      refine lv_goto (tgt := 34) hx hb dX12_likes_30 (by decide) ?_
      rw [hQ]
      refine W.widen (k := 0) (n := 0) (Nat.le_refl _) (Nat.le_refl _) ?_
      exact W.iret (v := v29) hx hb hr (fun t ht hW => ⟨⟨v29, w_2, rfl, ⟨hw.2.2.2.2, hM⟩, by rw [ht]; exact hw.2.1, va_K.moved hW.alike hw.1, hw.2.2.1⟩, hw.2.2.2.1.F ht⟩) hw.2.2.2.1.2.2 dX12_likes_34
