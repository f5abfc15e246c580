theorem ts_3_1 : Cond.selects "BoyBishopModel" ⟨"BoyBishopModel", "readsAll", "()Z"⟩ ⟨"BoyBishopModel", "readsAll", "()Z"⟩ ∈ gT := gT_in (List.mem_append_left _ (List.mem_map.mpr ⟨(⟨"BoyBishopModel", "readsAll", "()Z"⟩, 38), (List.mem_append_right _ (List.mem_append_right _ (List.mem_append_right _ (List.mem_append_left _ (List.mem_of_getElem? (i := 1) rfl))))), rfl⟩)) rfl
theorem ts_3_2 : Cond.selects "BoyBishopModel" ⟨"BoyBishopModel", "clauseHere", "()Z"⟩ ⟨"BoyBishopModel", "clauseHere", "()Z"⟩ ∈ gT := gT_in (List.mem_append_left _ (List.mem_map.mpr ⟨(⟨"BoyBishopModel", "clauseHere", "()Z"⟩, 38), (List.mem_append_right _ (List.mem_append_right _ (List.mem_append_right _ (List.mem_append_left _ (List.mem_of_getElem? (i := 2) rfl))))), rfl⟩)) rfl
theorem ts_5_3 : Cond.selects "BoyBishopModel" ⟨"BoyBishopModel", "fillsFar", "()V"⟩ ⟨"BoyBishopModel", "fillsFar", "()V"⟩ ∈ gT := gT_in (List.mem_append_left _ (List.mem_map.mpr ⟨(⟨"BoyBishopModel", "fillsFar", "()V"⟩, 38), (List.mem_append_right _ (List.mem_append_right _ (List.mem_append_right _ (List.mem_append_right _ (List.mem_append_right _ (List.mem_append_left _ (List.mem_of_getElem? (i := 3) rfl))))))), rfl⟩)) rfl
theorem ts_5_5 : Cond.selects "BoyBishopModel" ⟨"BoyBishopModel", "begins", "()V"⟩ ⟨"BoyBishopModel", "begins", "()V"⟩ ∈ gT := gT_in (List.mem_append_left _ (List.mem_map.mpr ⟨(⟨"BoyBishopModel", "begins", "()V"⟩, 38), (List.mem_append_right _ (List.mem_append_right _ (List.mem_append_right _ (List.mem_append_right _ (List.mem_append_right _ (List.mem_append_left _ (List.mem_of_getElem? (i := 5) rfl))))))), rfl⟩)) rfl
theorem tw_1256 : (Jvm.Cond.methodLink "BoyBishopModel" (274 : Nat) ({ cls := "BoyBishopModel", name := "readsAll", desc := "()Z" } : Jvm.MethodName)) ∈ gT := gT_in (List.mem_append_right _ (List.mem_append_right _ (List.mem_append_right _ (List.mem_append_right _ (List.mem_append_right _ (List.mem_append_right _ (List.mem_append_left _ (List.mem_of_getElem? (i := 56) rfl)))))))) rfl
theorem tw_1258 : (Jvm.Cond.instanceMethod ({ cls := "BoyBishopModel", name := "readsAll", desc := "()Z" } : Jvm.MethodName)) ∈ gT := gT_in (List.mem_append_right _ (List.mem_append_right _ (List.mem_append_right _ (List.mem_append_right _ (List.mem_append_right _ (List.mem_append_right _ (List.mem_append_left _ (List.mem_of_getElem? (i := 58) rfl)))))))) rfl
theorem tw_1259 : (Jvm.Cond.code ({ cls := "BoyBishopModel", name := "readsAll", desc := "()Z" } : Jvm.MethodName) prog_14_method_43_code (2 : Nat) (Option.some Jvm.ClassFile.FieldType.boolean)) ∈ gT := gT_in (List.mem_append_right _ (List.mem_append_right _ (List.mem_append_right _ (List.mem_append_right _ (List.mem_append_right _ (List.mem_append_right _ (List.mem_append_left _ (List.mem_of_getElem? (i := 59) rfl)))))))) rfl
theorem tw_1260 : (Jvm.Cond.methodLink "BoyBishopModel" (268 : Nat) ({ cls := "BoyBishopModel", name := "clauseHere", desc := "()Z" } : Jvm.MethodName)) ∈ gT := gT_in (List.mem_append_right _ (List.mem_append_right _ (List.mem_append_right _ (List.mem_append_right _ (List.mem_append_right _ (List.mem_append_right _ (List.mem_append_left _ (List.mem_of_getElem? (i := 60) rfl)))))))) rfl
theorem tw_1262 : (Jvm.Cond.instanceMethod ({ cls := "BoyBishopModel", name := "clauseHere", desc := "()Z" } : Jvm.MethodName)) ∈ gT := gT_in (List.mem_append_right _ (List.mem_append_right _ (List.mem_append_right _ (List.mem_append_right _ (List.mem_append_right _ (List.mem_append_right _ (List.mem_append_left _ (List.mem_of_getElem? (i := 62) rfl)))))))) rfl
theorem tw_1263 : (Jvm.Cond.code ({ cls := "BoyBishopModel", name := "clauseHere", desc := "()Z" } : Jvm.MethodName) prog_14_method_42_code (3 : Nat) (Option.some Jvm.ClassFile.FieldType.boolean)) ∈ gT := gT_in (List.mem_append_right _ (List.mem_append_right _ (List.mem_append_right _ (List.mem_append_right _ (List.mem_append_right _ (List.mem_append_right _ (List.mem_append_left _ (List.mem_of_getElem? (i := 63) rfl)))))))) rfl
theorem tw_1424 : (Jvm.Cond.methodLink "BoyBishopModel" (277 : Nat) ({ cls := "BoyBishopModel", name := "fillsFar", desc := "()V" } : Jvm.MethodName)) ∈ gT := gT_in (List.mem_append_right _ (List.mem_append_right _ (List.mem_append_right _ (List.mem_append_right _ (List.mem_append_right _ (List.mem_append_right _ (List.mem_append_left _ (List.mem_of_getElem? (i := 224) rfl)))))))) rfl
theorem tw_1426 : (Jvm.Cond.instanceMethod ({ cls := "BoyBishopModel", name := "fillsFar", desc := "()V" } : Jvm.MethodName)) ∈ gT := gT_in (List.mem_append_right _ (List.mem_append_right _ (List.mem_append_right _ (List.mem_append_right _ (List.mem_append_right _ (List.mem_append_right _ (List.mem_append_left _ (List.mem_of_getElem? (i := 226) rfl)))))))) rfl
theorem tw_1427 : (Jvm.Cond.code ({ cls := "BoyBishopModel", name := "fillsFar", desc := "()V" } : Jvm.MethodName) prog_14_method_62_code (5 : Nat) (Option.none : Option Jvm.ClassFile.FieldType)) ∈ gT := gT_in (List.mem_append_right _ (List.mem_append_right _ (List.mem_append_right _ (List.mem_append_right _ (List.mem_append_right _ (List.mem_append_right _ (List.mem_append_left _ (List.mem_of_getElem? (i := 227) rfl)))))))) rfl
theorem tw_1432 : (Jvm.Cond.methodLink "BoyBishopModel" (280 : Nat) ({ cls := "BoyBishopModel", name := "begins", desc := "()V" } : Jvm.MethodName)) ∈ gT := gT_in (List.mem_append_right _ (List.mem_append_right _ (List.mem_append_right _ (List.mem_append_right _ (List.mem_append_right _ (List.mem_append_right _ (List.mem_append_left _ (List.mem_of_getElem? (i := 232) rfl)))))))) rfl
theorem tw_1434 : (Jvm.Cond.instanceMethod ({ cls := "BoyBishopModel", name := "begins", desc := "()V" } : Jvm.MethodName)) ∈ gT := gT_in (List.mem_append_right _ (List.mem_append_right _ (List.mem_append_right _ (List.mem_append_right _ (List.mem_append_right _ (List.mem_append_right _ (List.mem_append_left _ (List.mem_of_getElem? (i := 234) rfl)))))))) rfl
theorem tw_1435 : (Jvm.Cond.code ({ cls := "BoyBishopModel", name := "begins", desc := "()V" } : Jvm.MethodName) prog_14_method_63_code (2 : Nat) (Option.none : Option Jvm.ClassFile.FieldType)) ∈ gT := gT_in (List.mem_append_right _ (List.mem_append_right _ (List.mem_append_right _ (List.mem_append_right _ (List.mem_append_right _ (List.mem_append_right _ (List.mem_append_left _ (List.mem_of_getElem? (i := 235) rfl)))))))) rfl
theorem dX12_choir_0 : decode cX12_choir 0 = .ok (.aload_n 0, 1) := by decide +kernel
theorem dX12_choir_1 : decode cX12_choir 1 = .ok (.bipush 6, 2) := by decide +kernel
theorem dX12_choir_3 : decode cX12_choir 3 = .ok (.putfield 147, 3) := by decide +kernel
theorem dX12_choir_6 : decode cX12_choir 6 = .ok (.iconst 0, 1) := by decide +kernel
theorem dX12_choir_7 : decode cX12_choir 7 = .ok (.istore_n 1, 1) := by decide +kernel
theorem dX12_choir_8 : decode cX12_choir 8 = .ok (.iload_n 1, 1) := by decide +kernel
theorem dX12_choir_9 : decode cX12_choir 9 = .ok (.sipush 285, 3) := by decide +kernel
theorem dX12_choir_12 : decode cX12_choir 12 = .ok (.if_icmp .ge 16, 3) := by decide +kernel
theorem dX12_choir_15 : decode cX12_choir 15 = .ok (.aload_n 0, 1) := by decide +kernel
theorem dX12_choir_16 : decode cX12_choir 16 = .ok (.getfield 26, 3) := by decide +kernel
theorem dX12_choir_19 : decode cX12_choir 19 = .ok (.iload_n 1, 1) := by decide +kernel
theorem dX12_choir_20 : decode cX12_choir 20 = .ok (.iconst 0, 1) := by decide +kernel
theorem dX12_choir_21 : decode cX12_choir 21 = .ok (.iastore, 1) := by decide +kernel
theorem dX12_choir_22 : decode cX12_choir 22 = .ok (.iinc 1 1, 3) := by decide +kernel
theorem dX12_choir_25 : decode cX12_choir 25 = .ok (.goto (-17), 3) := by decide +kernel
theorem dX12_choir_28 : decode cX12_choir 28 = .ok (.aload_n 0, 1) := by decide +kernel
theorem dX12_choir_29 : decode cX12_choir 29 = .ok (.invokevirtual 274, 3) := by decide +kernel
theorem dX12_choir_32 : decode cX12_choir 32 = .ok (.ifCond .ne 11, 3) := by decide +kernel
theorem dX12_choir_35 : decode cX12_choir 35 = .ok (.bipush (-2), 2) := by decide +kernel
theorem dX12_choir_37 : decode cX12_choir 37 = .ok (.aload_n 0, 1) := by decide +kernel
theorem dX12_choir_38 : decode cX12_choir 38 = .ok (.getfield 90, 3) := by decide +kernel
theorem dX12_choir_41 : decode cX12_choir 41 = .ok (.isub, 1) := by decide +kernel
theorem dX12_choir_42 : decode cX12_choir 42 = .ok (.ireturn, 1) := by decide +kernel
theorem dX12_choir_43 : decode cX12_choir 43 = .ok (.iconst 0, 1) := by decide +kernel
theorem dX12_choir_44 : decode cX12_choir 44 = .ok (.istore_n 1, 1) := by decide +kernel
theorem dX12_choir_45 : decode cX12_choir 45 = .ok (.iload_n 1, 1) := by decide +kernel
theorem dX12_choir_46 : decode cX12_choir 46 = .ok (.sipush 306, 3) := by decide +kernel
theorem dX12_choir_49 : decode cX12_choir 49 = .ok (.if_icmp .ge 32, 3) := by decide +kernel
theorem dX12_choir_52 : decode cX12_choir 52 = .ok (.aload_n 0, 1) := by decide +kernel
theorem dX12_choir_53 : decode cX12_choir 53 = .ok (.getfield 39, 3) := by decide +kernel
theorem dX12_choir_56 : decode cX12_choir 56 = .ok (.iload_n 1, 1) := by decide +kernel
theorem dX12_choir_57 : decode cX12_choir 57 = .ok (.iload_n 1, 1) := by decide +kernel
theorem dX12_choir_58 : decode cX12_choir 58 = .ok (.sipush 285, 3) := by decide +kernel
theorem dX12_choir_61 : decode cX12_choir 61 = .ok (.if_icmp .ge 12, 3) := by decide +kernel
theorem dX12_choir_64 : decode cX12_choir 64 = .ok (.aload_n 0, 1) := by decide +kernel
theorem dX12_choir_65 : decode cX12_choir 65 = .ok (.getfield 26, 3) := by decide +kernel
theorem dX12_choir_68 : decode cX12_choir 68 = .ok (.iload_n 1, 1) := by decide +kernel
theorem dX12_choir_69 : decode cX12_choir 69 = .ok (.iaload, 1) := by decide +kernel
theorem dX12_choir_70 : decode cX12_choir 70 = .ok (.goto 4, 3) := by decide +kernel
theorem dX12_choir_73 : decode cX12_choir 73 = .ok (.iconst 0, 1) := by decide +kernel
theorem dX12_choir_74 : decode cX12_choir 74 = .ok (.iastore, 1) := by decide +kernel
theorem dX12_choir_75 : decode cX12_choir 75 = .ok (.iinc 1 1, 3) := by decide +kernel
theorem dX12_choir_78 : decode cX12_choir 78 = .ok (.goto (-33), 3) := by decide +kernel
theorem dX12_choir_81 : decode cX12_choir 81 = .ok (.aload_n 0, 1) := by decide +kernel
theorem dX12_choir_82 : decode cX12_choir 82 = .ok (.invokevirtual 277, 3) := by decide +kernel
theorem dX12_choir_85 : decode cX12_choir 85 = .ok (.aload_n 0, 1) := by decide +kernel
theorem dX12_choir_86 : decode cX12_choir 86 = .ok (.invokevirtual 280, 3) := by decide +kernel
theorem dX12_choir_89 : decode cX12_choir 89 = .ok (.aload_n 0, 1) := by decide +kernel
theorem dX12_choir_90 : decode cX12_choir 90 = .ok (.iconst 0, 1) := by decide +kernel
theorem dX12_choir_91 : decode cX12_choir 91 = .ok (.putfield 283, 3) := by decide +kernel
theorem dX12_choir_94 : decode cX12_choir 94 = .ok (.aload_n 0, 1) := by decide +kernel
theorem dX12_choir_95 : decode cX12_choir 95 = .ok (.getfield 39, 3) := by decide +kernel
theorem dX12_choir_98 : decode cX12_choir 98 = .ok (.iconst 3, 1) := by decide +kernel
theorem dX12_choir_99 : decode cX12_choir 99 = .ok (.iaload, 1) := by decide +kernel
theorem dX12_choir_100 : decode cX12_choir 100 = .ok (.ireturn, 1) := by decide +kernel
theorem dX12_day_0 : decode cX12_day 0 = .ok (.aload_n 0, 1) := by decide +kernel
theorem dX12_day_1 : decode cX12_day 1 = .ok (.invokevirtual 379, 3) := by decide +kernel
theorem dX12_day_4 : decode cX12_day 4 = .ok (.ifCond .eq 16, 3) := by decide +kernel
theorem dX12_day_7 : decode cX12_day 7 = .ok (.aload_n 0, 1) := by decide +kernel
theorem dX12_day_8 : decode cX12_day 8 = .ok (.getfield 39, 3) := by decide +kernel
theorem dX12_day_11 : decode cX12_day 11 = .ok (.bipush 10, 2) := by decide +kernel
theorem dX12_day_13 : decode cX12_day 13 = .ok (.iaload, 1) := by decide +kernel
theorem dX12_day_14 : decode cX12_day 14 = .ok (.sipush 999, 3) := by decide +kernel
theorem dX12_day_17 : decode cX12_day 17 = .ok (.if_icmp .ne 6, 3) := by decide +kernel
theorem dX12_day_20 : decode cX12_day 20 = .ok (.bipush (-2), 2) := by decide +kernel
theorem dX12_day_22 : decode cX12_day 22 = .ok (.ireturn, 1) := by decide +kernel
theorem dX12_day_23 : decode cX12_day 23 = .ok (.aload_n 0, 1) := by decide +kernel
theorem dX12_day_24 : decode cX12_day 24 = .ok (.invokevirtual 382, 3) := by decide +kernel
theorem dX12_day_27 : decode cX12_day 27 = .ok (.aload_n 0, 1) := by decide +kernel
theorem dX12_day_28 : decode cX12_day 28 = .ok (.invokevirtual 385, 3) := by decide +kernel
theorem dX12_day_31 : decode cX12_day 31 = .ok (.aload_n 0, 1) := by decide +kernel
theorem dX12_day_32 : decode cX12_day 32 = .ok (.getfield 39, 3) := by decide +kernel
theorem dX12_day_35 : decode cX12_day 35 = .ok (.bipush 11, 2) := by decide +kernel
theorem dX12_day_37 : decode cX12_day 37 = .ok (.iaload, 1) := by decide +kernel
theorem dX12_day_38 : decode cX12_day 38 = .ok (.ireturn, 1) := by decide +kernel
theorem dX12_fillsFits_0 : decode cX12_fillsFits 0 = .ok (.aload_n 0, 1) := by decide +kernel
theorem dX12_fillsFits_1 : decode cX12_fillsFits 1 = .ok (.getfield 42, 3) := by decide +kernel
theorem dX12_fillsFits_4 : decode cX12_fillsFits 4 = .ok (.istore_n 1, 1) := by decide +kernel
theorem dX12_fillsFits_5 : decode cX12_fillsFits 5 = .ok (.aload_n 0, 1) := by decide +kernel
theorem dX12_fillsFits_6 : decode cX12_fillsFits 6 = .ok (.invokevirtual 394, 3) := by decide +kernel
theorem dX12_fillsFits_9 : decode cX12_fillsFits 9 = .ok (.iconst 0, 1) := by decide +kernel
theorem dX12_fillsFits_10 : decode cX12_fillsFits 10 = .ok (.istore_n 2, 1) := by decide +kernel
theorem dX12_fillsFits_11 : decode cX12_fillsFits 11 = .ok (.iload_n 2, 1) := by decide +kernel
theorem dX12_fillsFits_12 : decode cX12_fillsFits 12 = .ok (.aload_n 0, 1) := by decide +kernel
theorem dX12_fillsFits_13 : decode cX12_fillsFits 13 = .ok (.getfield 271, 3) := by decide +kernel
theorem dX12_fillsFits_16 : decode cX12_fillsFits 16 = .ok (.if_icmp .gt 136, 3) := by decide +kernel
theorem dX12_fillsFits_19 : decode cX12_fillsFits 19 = .ok (.aload_n 0, 1) := by decide +kernel
theorem dX12_fillsFits_20 : decode cX12_fillsFits 20 = .ok (.iload_n 2, 1) := by decide +kernel
theorem dX12_fillsFits_21 : decode cX12_fillsFits 21 = .ok (.iconst 1, 1) := by decide +kernel
theorem dX12_fillsFits_22 : decode cX12_fillsFits 22 = .ok (.isub, 1) := by decide +kernel
theorem dX12_fillsFits_23 : decode cX12_fillsFits 23 = .ok (.putfield 42, 3) := by decide +kernel
theorem dX12_fillsFits_26 : decode cX12_fillsFits 26 = .ok (.aload_n 0, 1) := by decide +kernel
theorem dX12_fillsFits_27 : decode cX12_fillsFits 27 = .ok (.invokevirtual 280, 3) := by decide +kernel
theorem dX12_fillsFits_30 : decode cX12_fillsFits 30 = .ok (.iconst 0, 1) := by decide +kernel
theorem dX12_fillsFits_31 : decode cX12_fillsFits 31 = .ok (.istore_n 3, 1) := by decide +kernel
theorem dX12_fillsFits_32 : decode cX12_fillsFits 32 = .ok (.iload_n 3, 1) := by decide +kernel
theorem dX12_fillsFits_33 : decode cX12_fillsFits 33 = .ok (.bipush 60, 2) := by decide +kernel
theorem dX12_fillsFits_35 : decode cX12_fillsFits 35 = .ok (.if_icmp .gt 30, 3) := by decide +kernel
theorem dX12_fillsFits_38 : decode cX12_fillsFits 38 = .ok (.aload_n 0, 1) := by decide +kernel
theorem dX12_fillsFits_39 : decode cX12_fillsFits 39 = .ok (.invokevirtual 385, 3) := by decide +kernel
theorem dX12_fillsFits_42 : decode cX12_fillsFits 42 = .ok (.aload_n 0, 1) := by decide +kernel
theorem dX12_fillsFits_43 : decode cX12_fillsFits 43 = .ok (.getfield 68, 3) := by decide +kernel
theorem dX12_fillsFits_46 : decode cX12_fillsFits 46 = .ok (.iload_n 2, 1) := by decide +kernel
theorem dX12_fillsFits_47 : decode cX12_fillsFits 47 = .ok (.iload_n 3, 1) := by decide +kernel
theorem dX12_fillsFits_48 : decode cX12_fillsFits 48 = .ok (.invokestatic 447, 3) := by decide +kernel
theorem dX12_fillsFits_51 : decode cX12_fillsFits 51 = .ok (.aload_n 0, 1) := by decide +kernel
theorem dX12_fillsFits_52 : decode cX12_fillsFits 52 = .ok (.getfield 39, 3) := by decide +kernel
theorem dX12_fillsFits_55 : decode cX12_fillsFits 55 = .ok (.bipush 11, 2) := by decide +kernel
theorem dX12_fillsFits_57 : decode cX12_fillsFits 57 = .ok (.iaload, 1) := by decide +kernel
theorem dX12_fillsFits_58 : decode cX12_fillsFits 58 = .ok (.iastore, 1) := by decide +kernel
theorem dX12_fillsFits_59 : decode cX12_fillsFits 59 = .ok (.iinc 3 1, 3) := by decide +kernel
theorem dX12_fillsFits_62 : decode cX12_fillsFits 62 = .ok (.goto (-30), 3) := by decide +kernel
theorem dX12_fillsFits_65 : decode cX12_fillsFits 65 = .ok (.iconst 1, 1) := by decide +kernel
theorem dX12_fillsFits_66 : decode cX12_fillsFits 66 = .ok (.istore_n 3, 1) := by decide +kernel
theorem dX12_fillsFits_67 : decode cX12_fillsFits 67 = .ok (.iconst 0, 1) := by decide +kernel
theorem dX12_fillsFits_68 : decode cX12_fillsFits 68 = .ok (.istore 4, 2) := by decide +kernel
theorem dX12_fillsFits_70 : decode cX12_fillsFits 70 = .ok (.iload 4, 2) := by decide +kernel
theorem dX12_fillsFits_72 : decode cX12_fillsFits 72 = .ok (.aload_n 0, 1) := by decide +kernel
theorem dX12_fillsFits_73 : decode cX12_fillsFits 73 = .ok (.getfield 39, 3) := by decide +kernel
theorem dX12_fillsFits_76 : decode cX12_fillsFits 76 = .ok (.sipush 305, 3) := by decide +kernel
theorem dX12_fillsFits_79 : decode cX12_fillsFits 79 = .ok (.iaload, 1) := by decide +kernel
theorem dX12_fillsFits_80 : decode cX12_fillsFits 80 = .ok (.if_icmp .ge 59, 3) := by decide +kernel
theorem dX12_fillsFits_83 : decode cX12_fillsFits 83 = .ok (.iload_n 3, 1) := by decide +kernel
theorem dX12_fillsFits_84 : decode cX12_fillsFits 84 = .ok (.ifCond .eq 47, 3) := by decide +kernel
theorem dX12_fillsFits_87 : decode cX12_fillsFits 87 = .ok (.aload_n 0, 1) := by decide +kernel
theorem dX12_fillsFits_88 : decode cX12_fillsFits 88 = .ok (.getfield 68, 3) := by decide +kernel
theorem dX12_fillsFits_91 : decode cX12_fillsFits 91 = .ok (.iload_n 2, 1) := by decide +kernel
theorem dX12_fillsFits_92 : decode cX12_fillsFits 92 = .ok (.aload_n 0, 1) := by decide +kernel
theorem dX12_fillsFits_93 : decode cX12_fillsFits 93 = .ok (.getfield 39, 3) := by decide +kernel
theorem dX12_fillsFits_96 : decode cX12_fillsFits 96 = .ok (.sipush 285, 3) := by decide +kernel
theorem dX12_fillsFits_99 : decode cX12_fillsFits 99 = .ok (.iconst 2, 1) := by decide +kernel
theorem dX12_fillsFits_100 : decode cX12_fillsFits 100 = .ok (.iload 4, 2) := by decide +kernel
theorem dX12_fillsFits_102 : decode cX12_fillsFits 102 = .ok (.imul, 1) := by decide +kernel
theorem dX12_fillsFits_103 : decode cX12_fillsFits 103 = .ok (.iadd, 1) := by decide +kernel
theorem dX12_fillsFits_104 : decode cX12_fillsFits 104 = .ok (.iaload, 1) := by decide +kernel
theorem dX12_fillsFits_105 : decode cX12_fillsFits 105 = .ok (.invokestatic 447, 3) := by decide +kernel
theorem dX12_fillsFits_108 : decode cX12_fillsFits 108 = .ok (.iaload, 1) := by decide +kernel
theorem dX12_fillsFits_109 : decode cX12_fillsFits 109 = .ok (.aload_n 0, 1) := by decide +kernel
theorem dX12_fillsFits_110 : decode cX12_fillsFits 110 = .ok (.getfield 39, 3) := by decide +kernel
theorem dX12_fillsFits_113 : decode cX12_fillsFits 113 = .ok (.sipush 285, 3) := by decide +kernel
theorem dX12_fillsFits_116 : decode cX12_fillsFits 116 = .ok (.iconst 2, 1) := by decide +kernel
theorem dX12_fillsFits_117 : decode cX12_fillsFits 117 = .ok (.iload 4, 2) := by decide +kernel
theorem dX12_fillsFits_119 : decode cX12_fillsFits 119 = .ok (.imul, 1) := by decide +kernel
theorem dX12_fillsFits_120 : decode cX12_fillsFits 120 = .ok (.iadd, 1) := by decide +kernel
theorem dX12_fillsFits_121 : decode cX12_fillsFits 121 = .ok (.iconst 1, 1) := by decide +kernel
theorem dX12_fillsFits_122 : decode cX12_fillsFits 122 = .ok (.iadd, 1) := by decide +kernel
theorem dX12_fillsFits_123 : decode cX12_fillsFits 123 = .ok (.iaload, 1) := by decide +kernel
theorem dX12_fillsFits_124 : decode cX12_fillsFits 124 = .ok (.if_icmp .ne 7, 3) := by decide +kernel
theorem dX12_fillsFits_127 : decode cX12_fillsFits 127 = .ok (.iconst 1, 1) := by decide +kernel
theorem dX12_fillsFits_128 : decode cX12_fillsFits 128 = .ok (.goto 4, 3) := by decide +kernel
theorem dX12_fillsFits_131 : decode cX12_fillsFits 131 = .ok (.iconst 0, 1) := by decide +kernel
theorem dX12_fillsFits_132 : decode cX12_fillsFits 132 = .ok (.istore_n 3, 1) := by decide +kernel
theorem dX12_fillsFits_133 : decode cX12_fillsFits 133 = .ok (.iinc 4 1, 3) := by decide +kernel
theorem dX12_fillsFits_136 : decode cX12_fillsFits 136 = .ok (.goto (-66), 3) := by decide +kernel
theorem dX12_fillsFits_139 : decode cX12_fillsFits 139 = .ok (.aload_n 0, 1) := by decide +kernel
theorem dX12_fillsFits_140 : decode cX12_fillsFits 140 = .ok (.getfield 64, 3) := by decide +kernel
theorem dX12_fillsFits_143 : decode cX12_fillsFits 143 = .ok (.iload_n 2, 1) := by decide +kernel
theorem dX12_fillsFits_144 : decode cX12_fillsFits 144 = .ok (.iload_n 3, 1) := by decide +kernel
theorem dX12_fillsFits_145 : decode cX12_fillsFits 145 = .ok (.bastore, 1) := by decide +kernel
theorem dX12_fillsFits_146 : decode cX12_fillsFits 146 = .ok (.iinc 2 1, 3) := by decide +kernel
theorem dX12_fillsFits_149 : decode cX12_fillsFits 149 = .ok (.goto (-138), 3) := by decide +kernel
theorem dX12_fillsFits_152 : decode cX12_fillsFits 152 = .ok (.aload_n 0, 1) := by decide +kernel
theorem dX12_fillsFits_153 : decode cX12_fillsFits 153 = .ok (.iload_n 1, 1) := by decide +kernel
theorem dX12_fillsFits_154 : decode cX12_fillsFits 154 = .ok (.putfield 42, 3) := by decide +kernel
theorem dX12_fillsFits_157 : decode cX12_fillsFits 157 = .ok (.aload_n 0, 1) := by decide +kernel
theorem dX12_fillsFits_158 : decode cX12_fillsFits 158 = .ok (.invokevirtual 397, 3) := by decide +kernel
theorem dX12_fillsFits_161 : decode cX12_fillsFits 161 = .ok (.return_, 1) := by decide +kernel
theorem dX12_fillsWanted_0 : decode cX12_fillsWanted 0 = .ok (.iconst 0, 1) := by decide +kernel
theorem dX12_fillsWanted_1 : decode cX12_fillsWanted 1 = .ok (.istore_n 1, 1) := by decide +kernel
theorem dX12_fillsWanted_2 : decode cX12_fillsWanted 2 = .ok (.iload_n 1, 1) := by decide +kernel
theorem dX12_fillsWanted_3 : decode cX12_fillsWanted 3 = .ok (.aload_n 0, 1) := by decide +kernel
theorem dX12_fillsWanted_4 : decode cX12_fillsWanted 4 = .ok (.getfield 39, 3) := by decide +kernel
theorem dX12_fillsWanted_7 : decode cX12_fillsWanted 7 = .ok (.iconst 3, 1) := by decide +kernel
theorem dX12_fillsWanted_8 : decode cX12_fillsWanted 8 = .ok (.iaload, 1) := by decide +kernel
theorem dX12_fillsWanted_9 : decode cX12_fillsWanted 9 = .ok (.if_icmp .ge 56, 3) := by decide +kernel
theorem dX12_fillsWanted_12 : decode cX12_fillsWanted 12 = .ok (.iconst 0, 1) := by decide +kernel
theorem dX12_fillsWanted_13 : decode cX12_fillsWanted 13 = .ok (.istore_n 2, 1) := by decide +kernel
theorem dX12_fillsWanted_14 : decode cX12_fillsWanted 14 = .ok (.iload_n 2, 1) := by decide +kernel
theorem dX12_fillsWanted_15 : decode cX12_fillsWanted 15 = .ok (.aload_n 0, 1) := by decide +kernel
theorem dX12_fillsWanted_16 : decode cX12_fillsWanted 16 = .ok (.getfield 39, 3) := by decide +kernel
theorem dX12_fillsWanted_19 : decode cX12_fillsWanted 19 = .ok (.iconst 3, 1) := by decide +kernel
theorem dX12_fillsWanted_20 : decode cX12_fillsWanted 20 = .ok (.iaload, 1) := by decide +kernel
theorem dX12_fillsWanted_21 : decode cX12_fillsWanted 21 = .ok (.if_icmp .ge 38, 3) := by decide +kernel
theorem dX12_fillsWanted_24 : decode cX12_fillsWanted 24 = .ok (.aload_n 0, 1) := by decide +kernel
theorem dX12_fillsWanted_25 : decode cX12_fillsWanted 25 = .ok (.getfield 55, 3) := by decide +kernel
theorem dX12_fillsWanted_28 : decode cX12_fillsWanted 28 = .ok (.bipush 6, 2) := by decide +kernel
theorem dX12_fillsWanted_30 : decode cX12_fillsWanted 30 = .ok (.iload_n 1, 1) := by decide +kernel
theorem dX12_fillsWanted_31 : decode cX12_fillsWanted 31 = .ok (.imul, 1) := by decide +kernel
theorem dX12_fillsWanted_32 : decode cX12_fillsWanted 32 = .ok (.iload_n 2, 1) := by decide +kernel
theorem dX12_fillsWanted_33 : decode cX12_fillsWanted 33 = .ok (.iadd, 1) := by decide +kernel
theorem dX12_fillsWanted_34 : decode cX12_fillsWanted 34 = .ok (.aload_n 0, 1) := by decide +kernel
theorem dX12_fillsWanted_35 : decode cX12_fillsWanted 35 = .ok (.iload_n 2, 1) := by decide +kernel
theorem dX12_fillsWanted_36 : decode cX12_fillsWanted 36 = .ok (.invokevirtual 314, 3) := by decide +kernel
theorem dX12_fillsWanted_39 : decode cX12_fillsWanted 39 = .ok (.ifCond .eq 12, 3) := by decide +kernel
theorem dX12_fillsWanted_42 : decode cX12_fillsWanted 42 = .ok (.aload_n 0, 1) := by decide +kernel
theorem dX12_fillsWanted_43 : decode cX12_fillsWanted 43 = .ok (.iload_n 1, 1) := by decide +kernel
theorem dX12_fillsWanted_44 : decode cX12_fillsWanted 44 = .ok (.iload_n 2, 1) := by decide +kernel
theorem dX12_fillsWanted_45 : decode cX12_fillsWanted 45 = .ok (.invokevirtual 339, 3) := by decide +kernel
theorem dX12_fillsWanted_48 : decode cX12_fillsWanted 48 = .ok (.goto 4, 3) := by decide +kernel
theorem dX12_fillsWanted_51 : decode cX12_fillsWanted 51 = .ok (.lconst 0, 1) := by decide +kernel
theorem dX12_fillsWanted_52 : decode cX12_fillsWanted 52 = .ok (.lastore, 1) := by decide +kernel
theorem dX12_fillsWanted_53 : decode cX12_fillsWanted 53 = .ok (.iinc 2 1, 3) := by decide +kernel
theorem dX12_fillsWanted_56 : decode cX12_fillsWanted 56 = .ok (.goto (-42), 3) := by decide +kernel
theorem dX12_fillsWanted_59 : decode cX12_fillsWanted 59 = .ok (.iinc 1 1, 3) := by decide +kernel
theorem dX12_fillsWanted_62 : decode cX12_fillsWanted 62 = .ok (.goto (-60), 3) := by decide +kernel
theorem dX12_fillsWanted_65 : decode cX12_fillsWanted 65 = .ok (.return_, 1) := by decide +kernel
theorem dX12_isWonBy_0 : decode cX12_isWonBy 0 = .ok (.aload_n 0, 1) := by decide +kernel
theorem dX12_isWonBy_1 : decode cX12_isWonBy 1 = .ok (.invokevirtual 349, 3) := by decide +kernel
theorem dX12_isWonBy_4 : decode cX12_isWonBy 4 = .ok (.iconst 0, 1) := by decide +kernel
theorem dX12_isWonBy_5 : decode cX12_isWonBy 5 = .ok (.istore_n 3, 1) := by decide +kernel
theorem dX12_isWonBy_6 : decode cX12_isWonBy 6 = .ok (.iload_n 3, 1) := by decide +kernel
theorem dX12_isWonBy_7 : decode cX12_isWonBy 7 = .ok (.aload_n 0, 1) := by decide +kernel
theorem dX12_isWonBy_8 : decode cX12_isWonBy 8 = .ok (.getfield 39, 3) := by decide +kernel
theorem dX12_isWonBy_11 : decode cX12_isWonBy 11 = .ok (.iconst 3, 1) := by decide +kernel
theorem dX12_isWonBy_12 : decode cX12_isWonBy 12 = .ok (.iaload, 1) := by decide +kernel
theorem dX12_isWonBy_13 : decode cX12_isWonBy 13 = .ok (.if_icmp .ge 24, 3) := by decide +kernel
theorem dX12_isWonBy_16 : decode cX12_isWonBy 16 = .ok (.iload_n 2, 1) := by decide +kernel
theorem dX12_isWonBy_17 : decode cX12_isWonBy 17 = .ok (.iload_n 3, 1) := by decide +kernel
theorem dX12_isWonBy_18 : decode cX12_isWonBy 18 = .ok (.invokestatic 406, 3) := by decide +kernel
theorem dX12_isWonBy_21 : decode cX12_isWonBy 21 = .ok (.ifCond .eq 10, 3) := by decide +kernel
theorem dX12_isWonBy_24 : decode cX12_isWonBy 24 = .ok (.aload_n 0, 1) := by decide +kernel
theorem dX12_isWonBy_25 : decode cX12_isWonBy 25 = .ok (.getfield 46, 3) := by decide +kernel
theorem dX12_isWonBy_28 : decode cX12_isWonBy 28 = .ok (.iload_n 3, 1) := by decide +kernel
theorem dX12_isWonBy_29 : decode cX12_isWonBy 29 = .ok (.iload_n 1, 1) := by decide +kernel
theorem dX12_isWonBy_30 : decode cX12_isWonBy 30 = .ok (.iastore, 1) := by decide +kernel
theorem dX12_isWonBy_31 : decode cX12_isWonBy 31 = .ok (.iinc 3 1, 3) := by decide +kernel
theorem dX12_isWonBy_34 : decode cX12_isWonBy 34 = .ok (.goto (-28), 3) := by decide +kernel
theorem dX12_isWonBy_37 : decode cX12_isWonBy 37 = .ok (.aload_n 0, 1) := by decide +kernel
theorem dX12_isWonBy_38 : decode cX12_isWonBy 38 = .ok (.invokevirtual 352, 3) := by decide +kernel
theorem dX12_isWonBy_41 : decode cX12_isWonBy 41 = .ok (.iload_n 1, 1) := by decide +kernel
theorem dX12_isWonBy_42 : decode cX12_isWonBy 42 = .ok (.if_icmp .ne 7, 3) := by decide +kernel
theorem dX12_isWonBy_45 : decode cX12_isWonBy 45 = .ok (.iconst 1, 1) := by decide +kernel
theorem dX12_isWonBy_46 : decode cX12_isWonBy 46 = .ok (.goto 4, 3) := by decide +kernel
theorem dX12_isWonBy_49 : decode cX12_isWonBy 49 = .ok (.iconst 0, 1) := by decide +kernel
theorem dX12_isWonBy_50 : decode cX12_isWonBy 50 = .ok (.ireturn, 1) := by decide +kernel
theorem dX12_readsAll_0 : decode cX12_readsAll 0 = .ok (.aload_n 0, 1) := by decide +kernel
theorem dX12_readsAll_1 : decode cX12_readsAll 1 = .ok (.getfield 17, 3) := by decide +kernel
theorem dX12_readsAll_4 : decode cX12_readsAll 4 = .ok (.aload_n 0, 1) := by decide +kernel
theorem dX12_readsAll_5 : decode cX12_readsAll 5 = .ok (.getfield 147, 3) := by decide +kernel
theorem dX12_readsAll_8 : decode cX12_readsAll 8 = .ok (.iconst 0, 1) := by decide +kernel
theorem dX12_readsAll_9 : decode cX12_readsAll 9 = .ok (.iastore, 1) := by decide +kernel
theorem dX12_readsAll_10 : decode cX12_readsAll 10 = .ok (.aload_n 0, 1) := by decide +kernel
theorem dX12_readsAll_11 : decode cX12_readsAll 11 = .ok (.iconst 0, 1) := by decide +kernel
theorem dX12_readsAll_12 : decode cX12_readsAll 12 = .ok (.putfield 259, 3) := by decide +kernel
theorem dX12_readsAll_15 : decode cX12_readsAll 15 = .ok (.aload_n 0, 1) := by decide +kernel
theorem dX12_readsAll_16 : decode cX12_readsAll 16 = .ok (.iconst 0, 1) := by decide +kernel
theorem dX12_readsAll_17 : decode cX12_readsAll 17 = .ok (.putfield 93, 3) := by decide +kernel
theorem dX12_readsAll_20 : decode cX12_readsAll 20 = .ok (.aload_n 0, 1) := by decide +kernel
theorem dX12_readsAll_21 : decode cX12_readsAll 21 = .ok (.iconst 0, 1) := by decide +kernel
theorem dX12_readsAll_22 : decode cX12_readsAll 22 = .ok (.putfield 90, 3) := by decide +kernel
theorem dX12_readsAll_25 : decode cX12_readsAll 25 = .ok (.aload_n 0, 1) := by decide +kernel
theorem dX12_readsAll_26 : decode cX12_readsAll 26 = .ok (.iconst 0, 1) := by decide +kernel
theorem dX12_readsAll_27 : decode cX12_readsAll 27 = .ok (.putfield 150, 3) := by decide +kernel
theorem dX12_readsAll_30 : decode cX12_readsAll 30 = .ok (.aload_n 0, 1) := by decide +kernel
theorem dX12_readsAll_31 : decode cX12_readsAll 31 = .ok (.invokevirtual 268, 3) := by decide +kernel
theorem dX12_readsAll_34 : decode cX12_readsAll 34 = .ok (.istore_n 1, 1) := by decide +kernel
theorem dX12_readsAll_35 : decode cX12_readsAll 35 = .ok (.iload_n 1, 1) := by decide +kernel
theorem dX12_readsAll_36 : decode cX12_readsAll 36 = .ok (.ifCond .eq 30, 3) := by decide +kernel
theorem dX12_readsAll_39 : decode cX12_readsAll 39 = .ok (.aload_n 0, 1) := by decide +kernel
theorem dX12_readsAll_40 : decode cX12_readsAll 40 = .ok (.invokevirtual 96, 3) := by decide +kernel
theorem dX12_readsAll_43 : decode cX12_readsAll 43 = .ok (.bipush 59, 2) := by decide +kernel
theorem dX12_readsAll_45 : decode cX12_readsAll 45 = .ok (.if_icmp .ne 21, 3) := by decide +kernel
theorem dX12_readsAll_48 : decode cX12_readsAll 48 = .ok (.aload_n 0, 1) := by decide +kernel
theorem dX12_readsAll_49 : decode cX12_readsAll 49 = .ok (.dup, 1) := by decide +kernel
theorem dX12_readsAll_50 : decode cX12_readsAll 50 = .ok (.getfield 93, 3) := by decide +kernel
theorem dX12_readsAll_53 : decode cX12_readsAll 53 = .ok (.iconst 1, 1) := by decide +kernel
theorem dX12_readsAll_54 : decode cX12_readsAll 54 = .ok (.iadd, 1) := by decide +kernel
theorem dX12_readsAll_55 : decode cX12_readsAll 55 = .ok (.putfield 93, 3) := by decide +kernel
theorem dX12_readsAll_58 : decode cX12_readsAll 58 = .ok (.aload_n 0, 1) := by decide +kernel
theorem dX12_readsAll_59 : decode cX12_readsAll 59 = .ok (.invokevirtual 268, 3) := by decide +kernel
theorem dX12_readsAll_62 : decode cX12_readsAll 62 = .ok (.istore_n 1, 1) := by decide +kernel
theorem dX12_readsAll_63 : decode cX12_readsAll 63 = .ok (.goto (-28), 3) := by decide +kernel
theorem dX12_readsAll_66 : decode cX12_readsAll 66 = .ok (.iload_n 1, 1) := by decide +kernel
theorem dX12_readsAll_67 : decode cX12_readsAll 67 = .ok (.ifCond .eq 21, 3) := by decide +kernel
theorem dX12_readsAll_70 : decode cX12_readsAll 70 = .ok (.aload_n 0, 1) := by decide +kernel
theorem dX12_readsAll_71 : decode cX12_readsAll 71 = .ok (.invokevirtual 96, 3) := by decide +kernel
theorem dX12_readsAll_74 : decode cX12_readsAll 74 = .ok (.iconst (-1), 1) := by decide +kernel
theorem dX12_readsAll_75 : decode cX12_readsAll 75 = .ok (.if_icmp .eq 13, 3) := by decide +kernel
theorem dX12_readsAll_78 : decode cX12_readsAll 78 = .ok (.aload_n 0, 1) := by decide +kernel
theorem dX12_readsAll_79 : decode cX12_readsAll 79 = .ok (.iconst 0, 1) := by decide +kernel
theorem dX12_readsAll_80 : decode cX12_readsAll 80 = .ok (.aload_n 0, 1) := by decide +kernel
theorem dX12_readsAll_81 : decode cX12_readsAll 81 = .ok (.getfield 93, 3) := by decide +kernel
theorem dX12_readsAll_84 : decode cX12_readsAll 84 = .ok (.invokevirtual 114, 3) := by decide +kernel
theorem dX12_readsAll_87 : decode cX12_readsAll 87 = .ok (.pop, 1) := by decide +kernel
theorem dX12_readsAll_88 : decode cX12_readsAll 88 = .ok (.aload_n 0, 1) := by decide +kernel
theorem dX12_readsAll_89 : decode cX12_readsAll 89 = .ok (.iconst 0, 1) := by decide +kernel
theorem dX12_readsAll_90 : decode cX12_readsAll 90 = .ok (.putfield 83, 3) := by decide +kernel
theorem dX12_readsAll_93 : decode cX12_readsAll 93 = .ok (.aload_n 0, 1) := by decide +kernel
theorem dX12_readsAll_94 : decode cX12_readsAll 94 = .ok (.getfield 90, 3) := by decide +kernel
theorem dX12_readsAll_97 : decode cX12_readsAll 97 = .ok (.ifCond .ne 7, 3) := by decide +kernel
theorem dX12_readsAll_100 : decode cX12_readsAll 100 = .ok (.iconst 1, 1) := by decide +kernel
theorem dX12_readsAll_101 : decode cX12_readsAll 101 = .ok (.goto 4, 3) := by decide +kernel
theorem dX12_readsAll_104 : decode cX12_readsAll 104 = .ok (.iconst 0, 1) := by decide +kernel
theorem dX12_readsAll_105 : decode cX12_readsAll 105 = .ok (.ireturn, 1) := by decide +kernel
theorem li_59 : (59 : Int32).toInt = 59 := by decide
set_option maxHeartbeats 4000000 in
set_option maxRecDepth 100000 in
theorem t_X12_readsAll (l : Launch) (dC : Nat → ClassId) (dI : Nat → Nat → Nat) (tys : List (ClassId × FieldType)) (κ : tK) (B : Nat) (ws : va_W) (hT : Ty κ tys B ws) (a0 : Nat) (k_a0 : κ a0 = some 12) (f0 : Int32) (l_f0 : 0 ≤ f0.toInt) (h_f0 : f0.toInt ≤ 6) (f_a0_X12_11 : fld ws a0 12 11 (.int f0)) (hCL : (f0.toInt = 6 ∧ RT κ ws a0) ∨ (f0.toInt ≤ 5 ∧ RZ κ ws a0 f0.toInt.toNat)) (sz : Nat) : Met l yX12_readsAll (ws_u yX12_readsAll cX12_readsAll 2 (some .boolean)) ({ frames := 11, cells := 0, slots := 0, locals := 241 }) (va_Pc [.ref a0] (cPre (dC, dI) tys ws sz)) (va_Qi (fun (r : Int32) (w : va_W) => 0 ≤ r.toInt ∧ r.toInt ≤ 1 ∧ Ty κ tys B w ∧ Sm [(12, 1), (12, 8), (12, 9), (12, 10), (12, 12), (12, 13), (12, 14), (12, 16)] [55, 56, 57, 58, 59, 60] κ ws w ∧ RT κ w a0) (fun w t => cPost (dC, dI) tys w (va_A ws sz) t) (va_A ws sz)) 0 0 (va_A ws sz) := by
  refine Met.ofW (cc := cX12_readsAll) (maxL := 2) (ret := (some .boolean)) (by decide) rfl ?_
  intro p e s m args below meth c s₁ B0 hml hv
  obtain ⟨rfl, hsz, hP, hK, hD0, hE⟩ := hv
  have hx := B0.exec
  have hb := B0.bytes
  have hr := B0.returns
  have hts0 := atoms_spec (ws := ws_u yX12_readsAll cX12_readsAll 2 (some .boolean)) B0.pre
  have hts : ∀ w ∈ gT, w.before _ s = true := fun w h => hts0 w (List.mem_cons_of_mem _ h)
  have hown : s.vm.findClass RX12 = some m.cls := findClass_of_methodNamed B0.named
  have hlocks := B0.notSynchronized
  subst hsz
  have hD := hD0.self (sz := s.heap.size)
  generalize hAe : va_A ws s.heap.size = A at hD ⊢
  have hA : ∀ q : Nat, s.heap.size ≤ q → A q := fun q h => by rw [← hAe]; exact Or.inr h
  have hw : tW (dC, dI) tys κ B A s ws s.heap [] := ⟨hK, hP, hD, va_S.rf, hT⟩
  have hM : Sm [(12, 1), (12, 8), (12, 9), (12, 10), (12, 12), (12, 13), (12, 14), (12, 16)] [55, 56, 57, 58, 59, 60] κ ws ws := Sm.rf
  clear hP hK hD hD0 hts0
  have hl := lv_entry ([.ref a0]) (n := 2) (Nat.le_of_ble_eq_true rfl)
  rw [lg_entry_eq]
  generalize (lg_sl ([.ref a0]) ++ List.replicate (2 - (lg_sl ([.ref a0])).length) Slot.unset).toArray = ls at hl ⊢
  have hl : lv_has ls 2 [(0, .ref a0)] := hl
  refine t_start (fun QQ hQ => ?_)
  refine lv_aload_n hx hb dX12_readsAll_0 rfl (lv_at hl 0 rfl) ?_
  refine t_getr (k1 := 56) (ci := 12) (C := RX12) (T := TX12) (N := 38) hx hb hts iX12 hown hw k_a0 rfl rfl rfl 4 (by decide) (hts _ tw_1129) (fun _ h9 => h9) dX12_readsAll_1 rfl (fun v1 k_v1 f_a0_X12_4 => ?_)
  refine lv_aload_n hx hb dX12_readsAll_4 rfl (lv_at hl 0 rfl) ?_
  refine t_getk (ci := 12) (C := RX12) (T := TX12) (N := 38) hx hb hts iX12 hown hw rfl 11 (by decide) (hts _ tw_1136) (fun _ h9 => h9) dX12_readsAll_5 f_a0_X12_11 ?_
  refine lv_iconst (v := 0) hx hb dX12_readsAll_8 (by decide) ?_
  refine t_iast hx hb hw k_v1 rfl rfl (by omega) (show f0.toInt < 7 by omega) (show 0 ≤ (0 : Int32).toInt by decide) (show (0 : Int32).toInt ≤ 400 by decide) dX12_readsAll_9 (fun w_1 H locs hw u => ?_)
  have hM := hM.up3 u k_v1 (by decide)
  have f_a0_X12_11 := u.1 _ _ _ _ f_a0_X12_11
  have f_a0_X12_4 := u.1 _ _ _ _ f_a0_X12_4
  have hCL : CL κ w_1 a0 f0.toInt 0 0 := by
    rcases hCL with ⟨h1, h2⟩ | ⟨h1, h2⟩
    · exact Or.inl ⟨h1, h2.upl hw.2.2.1 f_a0_X12_4 u⟩
    · exact Or.inr ⟨by omega, h1, 0, 0, (h2.start hw.2.2.1 f_a0_X12_4 u (by decide)).to rfl (by omega)⟩
  refine lv_aload_n hx hb dX12_readsAll_10 rfl (lv_at hl 0 rfl) ?_
  refine lv_iconst (v := 0) hx hb dX12_readsAll_11 (by decide) ?_
  refine t_put (ci := 12) (C := RX12) (T := TX12) (N := 38) (v := .int 0) hx hb hts iX12 tyX12 tyX12_ok nmX12 hown hw k_a0 rfl rfl rfl 14 (by decide) (hts _ tw_1139) (fun _ h9 => h9) rfl (tyX12_ok 14 (by decide)) rfl rfl (okV.int rfl (by decide) (by decide)) dX12_readsAll_12 (fun w_2 H locs hw u => ?_)
  have hM := hM.up1 u (by decide)
  have f_a0_X12_11 := u.1 _ _ _ _ f_a0_X12_11 (Or.inr (Or.inr (by decide)))
  have f_a0_X12_4 := u.1 _ _ _ _ f_a0_X12_4 (Or.inr (Or.inr (by decide)))
  have f_a0_X12_14 := u.2.2
  have hCL := hCL.sm (Sm.of1 u) (by decide) (by decide)
  refine lv_aload_n hx hb dX12_readsAll_15 rfl (lv_at hl 0 rfl) ?_
  refine lv_iconst (v := 0) hx hb dX12_readsAll_16 (by decide) ?_
  refine t_put (ci := 12) (C := RX12) (T := TX12) (N := 38) (v := .int 0) hx hb hts iX12 tyX12 tyX12_ok nmX12 hown hw k_a0 rfl rfl rfl 8 (by decide) (hts _ tw_1133) (fun _ h9 => h9) rfl (tyX12_ok 8 (by decide)) rfl rfl (okV.int rfl (by decide) (by decide)) dX12_readsAll_17 (fun w_3 H locs hw u => ?_)
  have hM := hM.up1 u (by decide)
  have f_a0_X12_11 := u.1 _ _ _ _ f_a0_X12_11 (Or.inr (Or.inr (by decide)))
  have f_a0_X12_4 := u.1 _ _ _ _ f_a0_X12_4 (Or.inr (Or.inr (by decide)))
  have f_a0_X12_14 := u.1 _ _ _ _ f_a0_X12_14 (Or.inr (Or.inr (by decide)))
  have f_a0_X12_8 := u.2.2
  have hCL := hCL.sm (Sm.of1 u) (by decide) (by decide)
  refine lv_aload_n hx hb dX12_readsAll_20 rfl (lv_at hl 0 rfl) ?_
  refine lv_iconst (v := 0) hx hb dX12_readsAll_21 (by decide) ?_
  refine t_put (ci := 12) (C := RX12) (T := TX12) (N := 38) (v := .int 0) hx hb hts iX12 tyX12 tyX12_ok nmX12 hown hw k_a0 rfl rfl rfl 9 (by decide) (hts _ tw_1134) (fun _ h9 => h9) rfl (tyX12_ok 9 (by decide)) rfl rfl (okV.int rfl (by decide) (by decide)) dX12_readsAll_22 (fun w_4 H locs hw u => ?_)
  have hM := hM.up1 u (by decide)
  have f_a0_X12_11 := u.1 _ _ _ _ f_a0_X12_11 (Or.inr (Or.inr (by decide)))
  have f_a0_X12_4 := u.1 _ _ _ _ f_a0_X12_4 (Or.inr (Or.inr (by decide)))
  have f_a0_X12_14 := u.1 _ _ _ _ f_a0_X12_14 (Or.inr (Or.inr (by decide)))
  have f_a0_X12_8 := u.1 _ _ _ _ f_a0_X12_8 (Or.inr (Or.inr (by decide)))
  have f_a0_X12_9 := u.2.2
  have hCL := hCL.sm (Sm.of1 u) (by decide) (by decide)
  refine lv_aload_n hx hb dX12_readsAll_25 rfl (lv_at hl 0 rfl) ?_
  refine lv_iconst (v := 0) hx hb dX12_readsAll_26 (by decide) ?_
  refine t_put (ci := 12) (C := RX12) (T := TX12) (N := 38) (v := .int 0) hx hb hts iX12 tyX12 tyX12_ok nmX12 hown hw k_a0 rfl rfl rfl 12 (by decide) (hts _ tw_1137) (fun _ h9 => h9) rfl (tyX12_ok 12 (by decide)) rfl rfl (okV.int rfl (by decide) (by decide)) dX12_readsAll_27 (fun w_5 H locs hw u => ?_)
  have hM := hM.up1 u (by decide)
  have f_a0_X12_11 := u.1 _ _ _ _ f_a0_X12_11 (Or.inr (Or.inr (by decide)))
  have f_a0_X12_4 := u.1 _ _ _ _ f_a0_X12_4 (Or.inr (Or.inr (by decide)))
  have f_a0_X12_14 := u.1 _ _ _ _ f_a0_X12_14 (Or.inr (Or.inr (by decide)))
  have f_a0_X12_8 := u.1 _ _ _ _ f_a0_X12_8 (Or.inr (Or.inr (by decide)))
  have f_a0_X12_9 := u.1 _ _ _ _ f_a0_X12_9 (Or.inr (Or.inr (by decide)))
  have f_a0_X12_12 := u.2.2
  have hCL := hCL.sm (Sm.of1 u) (by decide) (by decide)
  refine lv_aload_n hx hb dX12_readsAll_30 rfl (lv_at hl 0 rfl) ?_
  refine t_calli (va_runV (As := []) (rest := []) ⟨hx, hb, hml, hown, hts⟩ (t_X12_clauseHere l dC dI tys κ B w_5 hw.2.2.2.2 a0 k_a0 0 (by decide) (by decide) f_a0_X12_14 0 (by decide) (by decide) f_a0_X12_12 f0 (by omega) (by omega) f_a0_X12_11 (hCL.to (by decide) (by decide)) H.size) (cwV 0 hts (gUV tw_1260 tw_1262 ts_3_2 tw_13 tw_1263) rfl rfl rfl (by decide +kernel) ⟨(Nat.le_of_ble_eq_true rfl), (Nat.le_of_ble_eq_true rfl)⟩) ⟨cPre.blind, t_recv hw (ci := 12) k_a0 rfl rfl, cPre.use hw.2.1 hw.1 hw.2.2.1 hE⟩ rfl rfl hl.1 rfl (lv_room (Nat.le_of_ble_eq_true rfl)) dX12_readsAll_31 ⟨(Nat.le_of_ble_eq_true rfl), (Nat.le_of_ble_eq_true rfl)⟩) hw hA (fun _ _ h => h.2.2.1) (fun v31 w_6 H locs hp hw => ?_)
  obtain ⟨l_v31, h_v31, _, hm, ⟨v31l, v31m, l_v31l, h_v31l, l_v31m, h_v31m, f_a0_X12_14, f_a0_X12_12, y_v31, g_v31⟩⟩ := hp
  have zc_0 := li_0
  have hM := hM.trans hm (by decide) (by decide)
  have f_a0_X12_11 := hm.1 _ _ _ _ f_a0_X12_11 (by decide)
  have f_a0_X12_4 := hm.1 _ _ _ _ f_a0_X12_4 (by decide)
  refine lv_istore_n (lv' := [(1, .int v31), (0, .ref a0)]) hx hb dX12_readsAll_34 rfl hl (by decide) rfl (fun ls hl => ?_)
  have J35 : ∀ (n : Nat) (H : Heap) (locs : List Loc) (ls : Array Slot), (∃ (w35 : va_W) (p35_l1 : Int32) (p35_m_a0_X12_12 : Int32) (p35_m_a0_X12_14 : Int32), tW (dC, dI) tys κ B A s w35 H locs ∧ Sm [(12, 1), (12, 8), (12, 9), (12, 10), (12, 12), (12, 13), (12, 14), (12, 16)] [55, 56, 57, 58, 59, 60] κ ws w35 ∧ 0 ≤ p35_l1.toInt ∧ p35_l1.toInt ≤ 1 ∧ 0 ≤ p35_m_a0_X12_12.toInt ∧ p35_m_a0_X12_12.toInt ≤ 60 ∧ 0 ≤ p35_m_a0_X12_14.toInt ∧ p35_m_a0_X12_14.toInt ≤ 40 ∧ fld w35 a0 12 11 (.int f0) ∧ fld w35 a0 12 12 (.int p35_m_a0_X12_12) ∧ fld w35 a0 12 14 (.int p35_m_a0_X12_14) ∧ fld w35 a0 12 4 (.ref v1) ∧ Alt p35_l1 (RT κ w35 a0) (CL κ w35 a0 f0.toInt p35_m_a0_X12_12.toInt p35_m_a0_X12_14.toInt) ∧ lv_has ls 2 [(0, .ref a0), (1, .int p35_l1)] ∧ (2 * (40 - p35_m_a0_X12_14.toInt) + p35_l1.toInt).toNat = n) → W p l e (headSpec (ws_u yX12_readsAll cX12_readsAll 2 (some .boolean)) ({ frames := 11, cells := 0, slots := 0, locals := 241 })).room s m ([.ref a0] : List Value).toArray below meth c H locs 0 0 QQ (F0 m 35 ls []) := by
    refine loopT _ ?_
    intro n_35 H locs ls hI ih_35
    obtain ⟨w35, p35_l1, p35_m_a0_X12_12, p35_m_a0_X12_14, hw, hM, l_p35_l1, h_p35_l1, l_p35_m_a0_X12_12, h_p35_m_a0_X12_12, l_p35_m_a0_X12_14, h_p35_m_a0_X12_14, f_a0_X12_11, f_a0_X12_12, f_a0_X12_14, f_a0_X12_4, hG, hl, hn_35⟩ := hI
    refine lv_iload_n hx hb dX12_readsAll_35 rfl (lv_at hl 1 rfl) ?_
    have J66 : ∀ (H : Heap) (locs : List Loc) (ls : Array Slot) (w66 : va_W), tW (dC, dI) tys κ B A s w66 H locs → Sm [(12, 1), (12, 8), (12, 9), (12, 10), (12, 12), (12, 13), (12, 14), (12, 16)] [55, 56, 57, 58, 59, 60] κ ws w66 → fld w66 a0 12 11 (.int f0) → fld w66 a0 12 12 (.int p35_m_a0_X12_12) → fld w66 a0 12 14 (.int p35_m_a0_X12_14) → fld w66 a0 12 4 (.ref v1) → RT κ w66 a0 → lv_has ls 2 [(0, .ref a0), (1, .int p35_l1)] → W p l e (headSpec (ws_u yX12_readsAll cX12_readsAll 2 (some .boolean)) ({ frames := 11, cells := 0, slots := 0, locals := 241 })).room s m ([.ref a0] : List Value).toArray below meth c H locs 0 0 QQ (F0 m 66 ls []) := by
      intro H locs ls w66 hw hM f_a0_X12_11 f_a0_X12_12 f_a0_X12_14 f_a0_X12_4 hRT hl
      refine lv_iload_n hx hb dX12_readsAll_66 rfl (lv_at hl 1 rfl) ?_
      have J88 : ∀ (H : Heap) (locs : List Loc) (ls : Array Slot) (w88 : va_W), tW (dC, dI) tys κ B A s w88 H locs → Sm [(12, 1), (12, 8), (12, 9), (12, 10), (12, 12), (12, 13), (12, 14), (12, 16)] [55, 56, 57, 58, 59, 60] κ ws w88 → fld w88 a0 12 11 (.int f0) → fld w88 a0 12 12 (.int p35_m_a0_X12_12) → fld w88 a0 12 14 (.int p35_m_a0_X12_14) → fld w88 a0 12 4 (.ref v1) → RT κ w88 a0 → lv_has ls 2 [(0, .ref a0), (1, .int p35_l1)] → W p l e (headSpec (ws_u yX12_readsAll cX12_readsAll 2 (some .boolean)) ({ frames := 11, cells := 0, slots := 0, locals := 241 })).room s m ([.ref a0] : List Value).toArray below meth c H locs 0 0 QQ (F0 m 88 ls []) := by
        intro H locs ls w88 hw hM f_a0_X12_11 f_a0_X12_12 f_a0_X12_14 f_a0_X12_4 hRT hl
        refine lv_aload_n hx hb dX12_readsAll_88 rfl (lv_at hl 0 rfl) ?_
        refine lv_iconst (v := 0) hx hb dX12_readsAll_89 (by decide) ?_
        refine t_put (ci := 12) (C := RX12) (T := TX12) (N := 38) (v := .int 0) hx hb hts iX12 tyX12 tyX12_ok nmX12 hown hw k_a0 rfl rfl rfl 1 (by decide) (hts _ tw_1126) (fun _ h9 => h9) rfl (tyX12_ok 1 (by decide)) rfl rfl (okV.int rfl (by decide) (by decide)) dX12_readsAll_90 (fun w_7 H locs hw u => ?_)
        have hM := hM.up1 u (by decide)
        have f_a0_X12_11 := u.1 _ _ _ _ f_a0_X12_11 (Or.inr (Or.inr (by decide)))
        have f_a0_X12_12 := u.1 _ _ _ _ f_a0_X12_12 (Or.inr (Or.inr (by decide)))
        have f_a0_X12_14 := u.1 _ _ _ _ f_a0_X12_14 (Or.inr (Or.inr (by decide)))
        have f_a0_X12_4 := u.1 _ _ _ _ f_a0_X12_4 (Or.inr (Or.inr (by decide)))
        have f_a0_X12_1 := u.2.2
        have hRT := hRT.sm (Sm.of1 u) (by decide) (by decide)
        refine lv_aload_n hx hb dX12_readsAll_93 rfl (lv_at hl 0 rfl) ?_
        refine t_geti (ci := 12) (C := RX12) (T := TX12) (N := 38) hx hb hts iX12 hown hw k_a0 rfl rfl rfl 9 (by decide) (hts _ tw_1134) (fun _ h9 => h9) dX12_readsAll_94 rfl (fun v94 l_v94 h_v94 f_a0_X12_9 => ?_)
        have l_v94 : (-2147483648) ≤ v94.toInt := l_v94
        have h_v94 : v94.toInt ≤ 2147483647 := h_v94
        refine lv_if_ne (tgt := 104) hx hb dX12_readsAll_97 (by decide) (fun c_97 => ?_) (fun c_97 => ?_)
        · simp only [fa_lt, fa_le, fa_eq, li_0] at c_97
          refine lv_iconst (v := 0) hx hb dX12_readsAll_104 (by decide) ?_
          rw [hQ]
          refine W.widen (k := 0) (n := 0) (Nat.le_refl _) (Nat.le_refl _) ?_
          exact W.zret (v := 0) hx hb hr rfl (fun t ht hW => ⟨⟨0, w_7, rfl, ⟨(by decide), (by decide), hw.2.2.2.2, hM, hRT⟩, by rw [ht]; exact hw.2.1, va_K.moved hW.alike hw.1, hw.2.2.1⟩, hw.2.2.2.1.F ht⟩) hw.2.2.2.1.2.2 dX12_readsAll_105
        · simp only [fa_lt, fa_le, fa_eq, li_0] at c_97
          refine lv_iconst (v := 1) hx hb dX12_readsAll_100 (by decide) ?_
          refine lv_goto (tgt := 105) hx hb dX12_readsAll_101 (by decide) ?_
          rw [hQ]
          refine W.widen (k := 0) (n := 0) (Nat.le_refl _) (Nat.le_refl _) ?_
          exact W.zret (v := 1) hx hb hr rfl (fun t ht hW => ⟨⟨1, w_7, rfl, ⟨(by decide), (by decide), hw.2.2.2.2, hM, hRT⟩, by rw [ht]; exact hw.2.1, va_K.moved hW.alike hw.1, hw.2.2.1⟩, hw.2.2.2.1.F ht⟩) hw.2.2.2.1.2.2 dX12_readsAll_105
      refine lv_if_eq (tgt := 88) hx hb dX12_readsAll_67 (by decide) (fun c_67 => ?_) (fun c_67 => ?_)
      · simp only [fa_lt, fa_le, fa_eq, li_0] at c_67
        exact J88 _ _ _ w66 hw hM f_a0_X12_11 f_a0_X12_12 f_a0_X12_14 f_a0_X12_4 hRT (lv_sub hl [0, 1] rfl)
      · simp only [fa_lt, fa_le, fa_eq, li_0] at c_67
        refine lv_aload_n hx hb dX12_readsAll_70 rfl (lv_at hl 0 rfl) ?_
        obtain ⟨u_v71q0, q_v71q0, f_a0_X12_8⟩ := t_peek (k := 8) hw.2.2.2.2 k_a0 rfl (by decide)
        obtain ⟨v71q0, rfl, l_v71q0, h_v71q0⟩ := q_v71q0.geti (lo := 0) (hi := 401) rfl
        obtain ⟨u_v71q1, q_v71q1, f_a0_X12_1⟩ := t_peek (k := 1) hw.2.2.2.2 k_a0 rfl (by decide)
        obtain ⟨v71q1, rfl, l_v71q1, h_v71q1⟩ := q_v71q1.geti (lo := 0) (hi := 400) rfl
        refine t_calli (va_runV (As := []) (rest := []) ⟨hx, hb, hml, hown, hts⟩ (t_X12_see l dC dI tys κ B w66 hw.2.2.2.2 a0 k_a0 v71q0 (by omega) (by omega) f_a0_X12_8 v71q1 (by omega) (by omega) f_a0_X12_1 H.size) (cwV 0 hts (gUV tw_1264 tw_1266 ts_3_3 tw_13 tw_1267) rfl rfl rfl (by decide +kernel) ⟨(Nat.le_of_ble_eq_true rfl), (Nat.le_of_ble_eq_true rfl)⟩) ⟨cPre.blind, t_recv hw (ci := 12) k_a0 rfl rfl, cPre.use hw.2.1 hw.1 hw.2.2.1 hE⟩ rfl rfl hl.1 rfl (lv_room (Nat.le_of_ble_eq_true rfl)) dX12_readsAll_71 ⟨(Nat.le_of_ble_eq_true rfl), (Nat.le_of_ble_eq_true rfl)⟩) hw hA (fun _ _ h => h.2.2.1) (fun v71 w_8 H locs hp hw => ?_)
        obtain ⟨l_v71, h_v71, _, hm, ⟨v71n, l_v71n, h_v71n, f_a0_X12_8, y_v71⟩⟩ := hp
        have hM := hM.trans hm (by decide) (by decide)
        have f_a0_X12_11 := hm.1 _ _ _ _ f_a0_X12_11 (by decide)
        have f_a0_X12_12 := hm.1 _ _ _ _ f_a0_X12_12 (by decide)
        have f_a0_X12_14 := hm.1 _ _ _ _ f_a0_X12_14 (by decide)
        have f_a0_X12_4 := hm.1 _ _ _ _ f_a0_X12_4 (by decide)
        have f_a0_X12_1 := hm.1 _ _ _ _ f_a0_X12_1 (by decide)
        have hRT := hRT.sm hm (by decide) (by decide)
        refine lv_iconst (v := (-1)) hx hb dX12_readsAll_74 (by decide) ?_
        refine lv_icmp_eq (tgt := 88) hx hb dX12_readsAll_75 (by decide) (fun c_75 => ?_) (fun c_75 => ?_)
        · simp only [fa_lt, fa_le, fa_eq, li_m1] at c_75
          exact J88 _ _ _ w_8 hw hM f_a0_X12_11 f_a0_X12_12 f_a0_X12_14 f_a0_X12_4 hRT (lv_sub hl [0, 1] rfl)
        · simp only [fa_lt, fa_le, fa_eq, li_m1] at c_75
          refine lv_aload_n hx hb dX12_readsAll_78 rfl (lv_at hl 0 rfl) ?_
          refine lv_iconst (v := 0) hx hb dX12_readsAll_79 (by decide) ?_
          refine lv_aload_n hx hb dX12_readsAll_80 rfl (lv_at hl 0 rfl) ?_
          refine t_getk (ci := 12) (C := RX12) (T := TX12) (N := 38) hx hb hts iX12 hown hw rfl 8 (by decide) (hts _ tw_1133) (fun _ h9 => h9) dX12_readsAll_81 f_a0_X12_8 ?_
          refine t_calli (va_runV (As := [.int 0, .int v71n]) (rest := []) ⟨hx, hb, hml, hown, hts⟩ (t_X12_fails l dC dI tys κ B w_8 hw.2.2.2.2 a0 k_a0 0 (by decide) (by decide) v71n (by omega) (by omega) H.size) (cwV 2 hts (gUV tw_1288 tw_1290 ts_3_7 tw_13 tw_1291) rfl rfl rfl (by decide +kernel) ⟨(Nat.le_of_ble_eq_true rfl), (Nat.le_of_ble_eq_true rfl)⟩) ⟨cPre.blind, t_recv hw (ci := 12) k_a0 rfl rfl, cPre.use hw.2.1 hw.1 hw.2.2.1 hE⟩ rfl rfl hl.1 rfl (lv_room (Nat.le_of_ble_eq_true rfl)) dX12_readsAll_84 ⟨(Nat.le_of_ble_eq_true rfl), (Nat.le_of_ble_eq_true rfl)⟩) hw hA (fun _ _ h => h.2.2.1) (fun v84 w_9 H locs hp hw => ?_)
          obtain ⟨l_v84, h_v84, _, hm⟩ := hp
          have hM := hM.trans hm (by decide) (by decide)
          have f_a0_X12_11 := hm.1 _ _ _ _ f_a0_X12_11 (by decide)
          have f_a0_X12_12 := hm.1 _ _ _ _ f_a0_X12_12 (by decide)
          have f_a0_X12_14 := hm.1 _ _ _ _ f_a0_X12_14 (by decide)
          have f_a0_X12_4 := hm.1 _ _ _ _ f_a0_X12_4 (by decide)
          have f_a0_X12_1 := hm.1 _ _ _ _ f_a0_X12_1 (by decide)
          have f_a0_X12_8 := hm.1 _ _ _ _ f_a0_X12_8 (by decide)
          have hRT := hRT.sm hm (by decide) (by decide)
          refine lv_pop hx hb dX12_readsAll_87 rfl ?_
          exact J88 _ _ _ w_9 hw hM f_a0_X12_11 f_a0_X12_12 f_a0_X12_14 f_a0_X12_4 hRT (lv_sub hl [0, 1] rfl)
    refine lv_if_eq (tgt := 66) hx hb dX12_readsAll_36 (by decide) (fun c_36 => ?_) (fun c_36 => ?_)
    · simp only [fa_lt, fa_le, fa_eq, li_0] at c_36
      have hRT := hG.1 c_36
      exact J66 _ _ _ w35 hw hM f_a0_X12_11 f_a0_X12_12 f_a0_X12_14 f_a0_X12_4 hRT (lv_sub hl [0, 1] rfl)
    · simp only [fa_lt, fa_le, fa_eq, li_0] at c_36
      have hCL := hG.2 c_36
      have hRT := hCL.rt
      refine lv_aload_n hx hb dX12_readsAll_39 rfl (lv_at hl 0 rfl) ?_
      obtain ⟨u_v40q0, q_v40q0, f_a0_X12_8⟩ := t_peek (k := 8) hw.2.2.2.2 k_a0 rfl (by decide)
      obtain ⟨v40q0, rfl, l_v40q0, h_v40q0⟩ := q_v40q0.geti (lo := 0) (hi := 401) rfl
      obtain ⟨u_v40q1, q_v40q1, f_a0_X12_1⟩ := t_peek (k := 1) hw.2.2.2.2 k_a0 rfl (by decide)
      obtain ⟨v40q1, rfl, l_v40q1, h_v40q1⟩ := q_v40q1.geti (lo := 0) (hi := 400) rfl
      refine t_calli (va_runV (As := []) (rest := []) ⟨hx, hb, hml, hown, hts⟩ (t_X12_see l dC dI tys κ B w35 hw.2.2.2.2 a0 k_a0 v40q0 (by omega) (by omega) f_a0_X12_8 v40q1 (by omega) (by omega) f_a0_X12_1 H.size) (cwV 0 hts (gUV tw_1264 tw_1266 ts_3_3 tw_13 tw_1267) rfl rfl rfl (by decide +kernel) ⟨(Nat.le_of_ble_eq_true rfl), (Nat.le_of_ble_eq_true rfl)⟩) ⟨cPre.blind, t_recv hw (ci := 12) k_a0 rfl rfl, cPre.use hw.2.1 hw.1 hw.2.2.1 hE⟩ rfl rfl hl.1 rfl (lv_room (Nat.le_of_ble_eq_true rfl)) dX12_readsAll_40 ⟨(Nat.le_of_ble_eq_true rfl), (Nat.le_of_ble_eq_true rfl)⟩) hw hA (fun _ _ h => h.2.2.1) (fun v40 w_10 H locs hp hw => ?_)
      obtain ⟨l_v40, h_v40, _, hm, ⟨v40n, l_v40n, h_v40n, f_a0_X12_8, y_v40⟩⟩ := hp
      have hM := hM.trans hm (by decide) (by decide)
      have f_a0_X12_11 := hm.1 _ _ _ _ f_a0_X12_11 (by decide)
      have f_a0_X12_12 := hm.1 _ _ _ _ f_a0_X12_12 (by decide)
      have f_a0_X12_14 := hm.1 _ _ _ _ f_a0_X12_14 (by decide)
      have f_a0_X12_4 := hm.1 _ _ _ _ f_a0_X12_4 (by decide)
      have f_a0_X12_1 := hm.1 _ _ _ _ f_a0_X12_1 (by decide)
      have hCL := hCL.sm hm (by decide) (by decide)
      have hRT := hRT.sm hm (by decide) (by decide)
      refine lv_bipush (v := 59) hx hb dX12_readsAll_43 (by decide) ?_
      refine lv_icmp_ne (tgt := 66) hx hb dX12_readsAll_45 (by decide) (fun c_45 => ?_) (fun c_45 => ?_)
      · simp only [fa_lt, fa_le, fa_eq, li_59] at c_45
        exact J66 _ _ _ w_10 hw hM f_a0_X12_11 f_a0_X12_12 f_a0_X12_14 f_a0_X12_4 hRT (lv_sub hl [0, 1] rfl)
      · simp only [fa_lt, fa_le, fa_eq, li_59] at c_45
        refine lv_aload_n hx hb dX12_readsAll_48 rfl (lv_at hl 0 rfl) ?_
        refine lv_dup hx hb dX12_readsAll_49 rfl ?_
        refine t_getk (ci := 12) (C := RX12) (T := TX12) (N := 38) hx hb hts iX12 hown hw rfl 8 (by decide) (hts _ tw_1133) (fun _ h9 => h9) dX12_readsAll_50 f_a0_X12_8 ?_
        refine lv_iconst (v := 1) hx hb dX12_readsAll_53 (by decide) ?_
        refine lv_iadd hx hb dX12_readsAll_54 ?_
        refine lv_topi (fun v54 e_v54 => ?_)
        have e_v54 : v54.toInt = v40n.toInt + 1 := ad_i e_v54 rfl li_1 (by omega) (by omega)
        refine t_put (ci := 12) (C := RX12) (T := TX12) (N := 38) (v := .int v54) hx hb hts iX12 tyX12 tyX12_ok nmX12 hown hw k_a0 rfl rfl rfl 8 (by decide) (hts _ tw_1133) (fun _ h9 => h9) rfl (tyX12_ok 8 (by decide)) rfl rfl (okV.int rfl (by omega) (by omega)) dX12_readsAll_55 (fun w_11 H locs hw u => ?_)
        have hM := hM.up1 u (by decide)
        have f_a0_X12_11 := u.1 _ _ _ _ f_a0_X12_11 (Or.inr (Or.inr (by decide)))
        have f_a0_X12_12 := u.1 _ _ _ _ f_a0_X12_12 (Or.inr (Or.inr (by decide)))
        have f_a0_X12_14 := u.1 _ _ _ _ f_a0_X12_14 (Or.inr (Or.inr (by decide)))
        have f_a0_X12_4 := u.1 _ _ _ _ f_a0_X12_4 (Or.inr (Or.inr (by decide)))
        have f_a0_X12_1 := u.1 _ _ _ _ f_a0_X12_1 (Or.inr (Or.inr (by decide)))
        have f_a0_X12_8 := u.2.2
        have hCL := hCL.sm (Sm.of1 u) (by decide) (by decide)
        have hRT := hRT.sm (Sm.of1 u) (by decide) (by decide)
        refine lv_aload_n hx hb dX12_readsAll_58 rfl (lv_at hl 0 rfl) ?_
        refine t_calli (va_runV (As := []) (rest := []) ⟨hx, hb, hml, hown, hts⟩ (t_X12_clauseHere l dC dI tys κ B w_11 hw.2.2.2.2 a0 k_a0 p35_m_a0_X12_14 (by omega) (by omega) f_a0_X12_14 p35_m_a0_X12_12 (by omega) (by omega) f_a0_X12_12 f0 (by omega) (by omega) f_a0_X12_11 hCL H.size) (cwV 0 hts (gUV tw_1260 tw_1262 ts_3_2 tw_13 tw_1263) rfl rfl rfl (by decide +kernel) ⟨(Nat.le_of_ble_eq_true rfl), (Nat.le_of_ble_eq_true rfl)⟩) ⟨cPre.blind, t_recv hw (ci := 12) k_a0 rfl rfl, cPre.use hw.2.1 hw.1 hw.2.2.1 hE⟩ rfl rfl hl.1 rfl (lv_room (Nat.le_of_ble_eq_true rfl)) dX12_readsAll_59 ⟨(Nat.le_of_ble_eq_true rfl), (Nat.le_of_ble_eq_true rfl)⟩) hw hA (fun _ _ h => h.2.2.1) (fun v59 w_12 H locs hp hw => ?_)
        obtain ⟨l_v59, h_v59, _, hm, ⟨v59l, v59m, l_v59l, h_v59l, l_v59m, h_v59m, f_a0_X12_14, f_a0_X12_12, y_v59, g_v59⟩⟩ := hp
        have hM := hM.trans hm (by decide) (by decide)
        have f_a0_X12_11 := hm.1 _ _ _ _ f_a0_X12_11 (by decide)
        have f_a0_X12_4 := hm.1 _ _ _ _ f_a0_X12_4 (by decide)
        have f_a0_X12_1 := hm.1 _ _ _ _ f_a0_X12_1 (by decide)
        refine lv_istore_n (lv' := [(1, .int v59), (0, .ref a0)]) hx hb dX12_readsAll_62 rfl hl (by decide) rfl (fun ls hl => ?_)
        refine lv_goto (tgt := 35) hx hb dX12_readsAll_63 (by decide) ?_
        exact ih_35 _ _ _ _ (by omega) ⟨w_12, v59, v59m, v59l, hw, hM, (by omega), (by omega), (by omega), (by omega), (by omega), (by omega), f_a0_X12_11, f_a0_X12_12, f_a0_X12_14, f_a0_X12_4, g_v59, (lv_sub hl [1, 0] rfl), rfl⟩
  exact J35 _ _ _ _ ⟨w_6, v31, v31m, v31l, hw, hM, (by omega), (by omega), (by omega), (by omega), (by omega), (by omega), f_a0_X12_11, f_a0_X12_12, f_a0_X12_14, f_a0_X12_4, g_v31, (lv_sub hl [1, 0] rfl), rfl⟩
set_option maxHeartbeats 4000000 in
set_option maxRecDepth 100000 in
theorem t_X12_choir (l : Launch) (dC : Nat → ClassId) (dI : Nat → Nat → Nat) (tys : List (ClassId × FieldType)) (κ : tK) (B : Nat) (ws : va_W) (hT : Ty κ tys B ws) (a0 : Nat) (k_a0 : κ a0 = some 12) (f0 : Nat) (k_f0 : κ f0 = some 63) (f_a0_X12_20 : fld ws a0 12 20 (.ref f0)) (f1 : Int32) (l_f1 : 0 ≤ f1.toInt) (h_f1 : f1.toInt ≤ 999) (f_f0_M_said_10 : elt ws f0 (10 : Int32).toInt.toNat f1) (hRT : RT κ ws a0) (sz : Nat) : Met l yX12_choir (ws_u yX12_choir cX12_choir 2 (some .int)) ({ frames := 12, cells := 0, slots := 0, locals := 262 }) (va_Pc [.ref a0] (cPre (dC, dI) tys ws sz)) (va_Qi (fun (r : Int32) (w : va_W) => Ty κ tys B w ∧ Sm [(12, 1), (12, 8), (12, 9), (12, 10), (12, 11), (12, 12), (12, 13), (12, 14), (12, 16), (12, 26)] [55, 56, 57, 58, 59, 60, 63] κ ws w ∧ (∃ (xd : Int32), 0 ≤ xd.toInt ∧ xd.toInt ≤ 999 ∧ elt w f0 (10 : Int32).toInt.toNat xd) ∧ RT κ w a0) (fun w t => cPost (dC, dI) tys w (va_A ws sz) t) (va_A ws sz)) 0 0 (va_A ws sz) := by
  refine Met.ofW (cc := cX12_choir) (maxL := 2) (ret := (some .int)) (by decide) rfl ?_
  intro p e s m args below meth c s₁ B0 hml hv
  obtain ⟨rfl, hsz, hP, hK, hD0, hE⟩ := hv
  have hx := B0.exec
  have hb := B0.bytes
  have hr := B0.returns
  have hts0 := atoms_spec (ws := ws_u yX12_choir cX12_choir 2 (some .int)) B0.pre
  have hts : ∀ w ∈ gT, w.before _ s = true := fun w h => hts0 w (List.mem_cons_of_mem _ h)
  have hown : s.vm.findClass RX12 = some m.cls := findClass_of_methodNamed B0.named
  have hlocks := B0.notSynchronized
  subst hsz
  have hD := hD0.self (sz := s.heap.size)
  generalize hAe : va_A ws s.heap.size = A at hD ⊢
  have hA : ∀ q : Nat, s.heap.size ≤ q → A q := fun q h => by rw [← hAe]; exact Or.inr h
  have hw : tW (dC, dI) tys κ B A s ws s.heap [] := ⟨hK, hP, hD, va_S.rf, hT⟩
  have hM : Sm [(12, 1), (12, 8), (12, 9), (12, 10), (12, 11), (12, 12), (12, 13), (12, 14), (12, 16), (12, 26)] [55, 56, 57, 58, 59, 60, 63] κ ws ws := Sm.rf
  clear hP hK hD hD0 hts0
  have hl := lv_entry ([.ref a0]) (n := 2) (Nat.le_of_ble_eq_true rfl)
  rw [lg_entry_eq]
  generalize (lg_sl ([.ref a0]) ++ List.replicate (2 - (lg_sl ([.ref a0])).length) Slot.unset).toArray = ls at hl ⊢
  have hl : lv_has ls 2 [(0, .ref a0)] := hl
  refine t_start (fun QQ hQ => ?_)
  refine lv_aload_n hx hb dX12_choir_0 rfl (lv_at hl 0 rfl) ?_
  refine lv_bipush (v := 6) hx hb dX12_choir_1 (by decide) ?_
  refine t_put (ci := 12) (C := RX12) (T := TX12) (N := 38) (v := .int 6) hx hb hts iX12 tyX12 tyX12_ok nmX12 hown hw k_a0 rfl rfl rfl 11 (by decide) (hts _ tw_1136) (fun _ h9 => h9) rfl (tyX12_ok 11 (by decide)) rfl rfl (okV.int rfl (by decide) (by decide)) dX12_choir_3 (fun w_1 H locs hw u => ?_)
  have hM := hM.up1 u (by decide)
  have f_a0_X12_20 := u.1 _ _ _ _ f_a0_X12_20 (Or.inr (Or.inr (by decide)))
  have f_f0_M_said_10 := u.elt f_f0_M_said_10
  have f_a0_X12_11 := u.2.2
  have hRT := hRT.sm (Sm.of1 u) (by decide) (by decide)
  refine lv_iconst (v := 0) hx hb dX12_choir_6 (by decide) ?_
  refine lv_istore_n (lv' := [(1, .int 0), (0, .ref a0)]) hx hb dX12_choir_7 rfl hl (by decide) rfl (fun ls hl => ?_)
  have J8 : ∀ (n : Nat) (H : Heap) (locs : List Loc) (ls : Array Slot), (∃ (w8 : va_W) (p8_l1 : Int32), tW (dC, dI) tys κ B A s w8 H locs ∧ Sm [(12, 1), (12, 8), (12, 9), (12, 10), (12, 11), (12, 12), (12, 13), (12, 14), (12, 16), (12, 26)] [55, 56, 57, 58, 59, 60, 63] κ ws w8 ∧ 0 ≤ p8_l1.toInt ∧ p8_l1.toInt ≤ 285 ∧ fld w8 a0 12 11 (.int 6) ∧ fld w8 a0 12 20 (.ref f0) ∧ elt w8 f0 (10 : Int32).toInt.toNat f1 ∧ RT κ w8 a0 ∧ lv_has ls 2 [(0, .ref a0), (1, .int p8_l1)] ∧ (285 - p8_l1.toInt).toNat = n) → W p l e (headSpec (ws_u yX12_choir cX12_choir 2 (some .int)) ({ frames := 12, cells := 0, slots := 0, locals := 262 })).room s m ([.ref a0] : List Value).toArray below meth c H locs 0 0 QQ (F0 m 8 ls []) := by
    refine loopT _ ?_
    intro n_8 H locs ls hI ih_8
    obtain ⟨w8, p8_l1, hw, hM, l_p8_l1, h_p8_l1, f_a0_X12_11, f_a0_X12_20, f_f0_M_said_10, hRT, hl, hn_8⟩ := hI
    refine lv_iload_n hx hb dX12_choir_8 rfl (lv_at hl 1 rfl) ?_
    refine lv_sipush (v := 285) hx hb dX12_choir_9 (by decide) ?_
    refine lv_icmp_ge (tgt := 28) hx hb dX12_choir_12 (by decide) (fun c_12 => ?_) (fun c_12 => ?_)
    · simp only [fa_lt, fa_le, fa_eq, li_285] at c_12
      refine lv_aload_n hx hb dX12_choir_28 rfl (lv_at hl 0 rfl) ?_
      refine t_calli (va_runV (As := []) (rest := []) ⟨hx, hb, hml, hown, hts⟩ (t_X12_readsAll l dC dI tys κ B w8 hw.2.2.2.2 a0 k_a0 6 (by decide) (by decide) f_a0_X12_11 (Or.inl ⟨by decide, hRT⟩) H.size) (cwV 0 hts (gUV tw_1256 tw_1258 ts_3_1 tw_13 tw_1259) rfl rfl rfl (by decide +kernel) ⟨(Nat.le_of_ble_eq_true rfl), (Nat.le_of_ble_eq_true rfl)⟩) ⟨cPre.blind, t_recv hw (ci := 12) k_a0 rfl rfl, cPre.use hw.2.1 hw.1 hw.2.2.1 hE⟩ rfl rfl hl.1 rfl (lv_room (Nat.le_of_ble_eq_true rfl)) dX12_choir_29 ⟨(Nat.le_of_ble_eq_true rfl), (Nat.le_of_ble_eq_true rfl)⟩) hw hA (fun _ _ h => h.2.2.1) (fun v29 w_2 H locs hp hw => ?_)
      obtain ⟨l_v29, h_v29, _, hm, hRT⟩ := hp
      have zc_6 := li_6
      have hM := hM.trans hm (by decide) (by decide)
      have f_a0_X12_11 := hm.1 _ _ _ _ f_a0_X12_11 (by decide)
      have f_a0_X12_20 := hm.1 _ _ _ _ f_a0_X12_20 (by decide)
      have f_f0_M_said_10 := hm.elt k_f0 (by decide) f_f0_M_said_10
      refine lv_if_ne (tgt := 43) hx hb dX12_choir_32 (by decide) (fun c_32 => ?_) (fun c_32 => ?_)
      · simp only [fa_lt, fa_le, fa_eq, li_0] at c_32
        refine lv_iconst (v := 0) hx hb dX12_choir_43 (by decide) ?_
        refine lv_istore_n (lv' := [(1, .int 0), (0, .ref a0)]) hx hb dX12_choir_44 rfl hl (by decide) rfl (fun ls hl => ?_)
        have J45 : ∀ (n : Nat) (H : Heap) (locs : List Loc) (ls : Array Slot), (∃ (w45 : va_W) (p45_l1 : Int32), tW (dC, dI) tys κ B A s w45 H locs ∧ Sm [(12, 1), (12, 8), (12, 9), (12, 10), (12, 11), (12, 12), (12, 13), (12, 14), (12, 16), (12, 26)] [55, 56, 57, 58, 59, 60, 63] κ ws w45 ∧ 0 ≤ p45_l1.toInt ∧ p45_l1.toInt ≤ 306 ∧ fld w45 a0 12 11 (.int 6) ∧ fld w45 a0 12 20 (.ref f0) ∧ RT κ w45 a0 ∧ lv_has ls 2 [(0, .ref a0), (1, .int p45_l1)] ∧ (306 - p45_l1.toInt).toNat = n) → W p l e (headSpec (ws_u yX12_choir cX12_choir 2 (some .int)) ({ frames := 12, cells := 0, slots := 0, locals := 262 })).room s m ([.ref a0] : List Value).toArray below meth c H locs 0 0 QQ (F0 m 45 ls []) := by
          refine loopT _ ?_
          intro n_45 H locs ls hI ih_45
          obtain ⟨w45, p45_l1, hw, hM, l_p45_l1, h_p45_l1, f_a0_X12_11, f_a0_X12_20, hRT, hl, hn_45⟩ := hI
          refine lv_iload_n hx hb dX12_choir_45 rfl (lv_at hl 1 rfl) ?_
          refine lv_sipush (v := 306) hx hb dX12_choir_46 (by decide) ?_
          refine lv_icmp_ge (tgt := 81) hx hb dX12_choir_49 (by decide) (fun c_49 => ?_) (fun c_49 => ?_)
          · simp only [fa_lt, fa_le, fa_eq, li_306] at c_49
            refine lv_aload_n hx hb dX12_choir_81 rfl (lv_at hl 0 rfl) ?_
            refine t_callv (va_runV (As := []) (rest := []) ⟨hx, hb, hml, hown, hts⟩ (t_X12_fillsFar l dC dI tys κ B w45 hw.2.2.2.2 a0 k_a0 H.size) (cwV 0 hts (gUV tw_1424 tw_1426 ts_5_3 tw_13 tw_1427) rfl rfl rfl (by decide +kernel) ⟨(Nat.le_of_ble_eq_true rfl), (Nat.le_of_ble_eq_true rfl)⟩) ⟨cPre.blind, t_recv hw (ci := 12) k_a0 rfl rfl, cPre.use hw.2.1 hw.1 hw.2.2.1 hE⟩ rfl rfl hl.1 rfl (lv_room (Nat.le_of_ble_eq_true rfl)) dX12_choir_82 ⟨(Nat.le_of_ble_eq_true rfl), (Nat.le_of_ble_eq_true rfl)⟩) hw hA (fun _ h => h.1) (fun w_3 H locs hp hw => ?_)
            obtain ⟨_, hm⟩ := hp
            have hM := hM.trans hm (by decide) (by decide)
            have f_a0_X12_11 := hm.1 _ _ _ _ f_a0_X12_11 (by decide)
            have f_a0_X12_20 := hm.1 _ _ _ _ f_a0_X12_20 (by decide)
            have hRT := hRT.sm hm (by decide) (by decide)
            refine lv_aload_n hx hb dX12_choir_85 rfl (lv_at hl 0 rfl) ?_
            refine t_callv (va_runV (As := []) (rest := []) ⟨hx, hb, hml, hown, hts⟩ (t_X12_begins l dC dI tys κ B w_3 hw.2.2.2.2 a0 k_a0 f0 k_f0 f_a0_X12_20 H.size) (cwV 0 hts (gUV tw_1432 tw_1434 ts_5_5 tw_13 tw_1435) rfl rfl rfl (by decide +kernel) ⟨(Nat.le_of_ble_eq_true rfl), (Nat.le_of_ble_eq_true rfl)⟩) ⟨cPre.blind, t_recv hw (ci := 12) k_a0 rfl rfl, cPre.use hw.2.1 hw.1 hw.2.2.1 hE⟩ rfl rfl hl.1 rfl (lv_room (Nat.le_of_ble_eq_true rfl)) dX12_choir_86 ⟨(Nat.le_of_ble_eq_true rfl), (Nat.le_of_ble_eq_true rfl)⟩) hw hA (fun _ h => h.1) (fun w_4 H locs hp hw => ?_)
            obtain ⟨_, hm, ⟨v86d, l_v86d, h_v86d, f_f0_M_said_10⟩⟩ := hp
            have hM := hM.trans hm (by decide) (by decide)
            have f_a0_X12_11 := hm.1 _ _ _ _ f_a0_X12_11 (by decide)
            have f_a0_X12_20 := hm.1 _ _ _ _ f_a0_X12_20 (by decide)
            have hRT := hRT.sm hm (by decide) (by decide)
            refine lv_aload_n hx hb dX12_choir_89 rfl (lv_at hl 0 rfl) ?_
            refine lv_iconst (v := 0) hx hb dX12_choir_90 (by decide) ?_
            refine t_put (ci := 12) (C := RX12) (T := TX12) (N := 38) (v := .int 0) hx hb hts iX12 tyX12 tyX12_ok nmX12 hown hw k_a0 rfl rfl rfl 26 (by decide) (hts _ tw_1151) (fun _ h9 => h9) rfl (tyX12_ok 26 (by decide)) rfl rfl (okV.int rfl (by decide) (by decide)) dX12_choir_91 (fun w_5 H locs hw u => ?_)
            have hM := hM.up1 u (by decide)
            have f_a0_X12_11 := u.1 _ _ _ _ f_a0_X12_11 (Or.inr (Or.inr (by decide)))
            have f_a0_X12_20 := u.1 _ _ _ _ f_a0_X12_20 (Or.inr (Or.inr (by decide)))
            have f_f0_M_said_10 := u.elt f_f0_M_said_10
            have f_a0_X12_26 := u.2.2
            have hRT := hRT.sm (Sm.of1 u) (by decide) (by decide)
            refine lv_aload_n hx hb dX12_choir_94 rfl (lv_at hl 0 rfl) ?_
            refine t_getk (ci := 12) (C := RX12) (T := TX12) (N := 38) hx hb hts iX12 hown hw rfl 20 (by decide) (hts _ tw_1145) (fun _ h9 => h9) dX12_choir_95 f_a0_X12_20 ?_
            refine lv_iconst (v := 3) hx hb dX12_choir_98 (by decide) ?_
            refine t_iald hx hb hw k_f0 rfl rfl (by decide) (by decide) dX12_choir_99 (fun v99 r_v99 s_v99 f_f0_M_said_3 => ?_)
            have l_v99 : 0 ≤ v99.toInt := by rw [iv_63_3] at r_v99; exact r_v99
            have h_v99 : v99.toInt ≤ 6 := by rw [iv_63_3] at s_v99; exact s_v99
            rw [hQ]
            refine W.widen (k := 0) (n := 0) (Nat.le_refl _) (Nat.le_refl _) ?_
            exact W.iret (v := v99) hx hb hr (fun t ht hW => ⟨⟨v99, w_5, rfl, ⟨hw.2.2.2.2, hM, ⟨v86d, (by omega), (by omega), f_f0_M_said_10⟩, hRT⟩, by rw [ht]; exact hw.2.1, va_K.moved hW.alike hw.1, hw.2.2.1⟩, hw.2.2.2.1.F ht⟩) hw.2.2.2.1.2.2 dX12_choir_100
          · simp only [fa_lt, fa_le, fa_eq, li_306] at c_49
            refine lv_aload_n hx hb dX12_choir_52 rfl (lv_at hl 0 rfl) ?_
            refine t_getk (ci := 12) (C := RX12) (T := TX12) (N := 38) hx hb hts iX12 hown hw rfl 20 (by decide) (hts _ tw_1145) (fun _ h9 => h9) dX12_choir_53 f_a0_X12_20 ?_
            refine lv_iload_n hx hb dX12_choir_56 rfl (lv_at hl 1 rfl) ?_
            refine lv_iload_n hx hb dX12_choir_57 rfl (lv_at hl 1 rfl) ?_
            refine lv_sipush (v := 285) hx hb dX12_choir_58 (by decide) ?_
            refine lv_icmp_ge (tgt := 73) hx hb dX12_choir_61 (by decide) (fun c_61 => ?_) (fun c_61 => ?_)
            · simp only [fa_lt, fa_le, fa_eq, li_285] at c_61
              refine lv_iconst (v := 0) hx hb dX12_choir_73 (by decide) ?_
              refine t_iast hx hb hw k_f0 rfl rfl (by omega) (show p45_l1.toInt < 306 by omega) (by rw [aiv_said]; exact (ivS_0 _).1) (by rw [aiv_said]; exact (ivS_0 _).2) dX12_choir_74 (fun w_6 H locs hw u => ?_)
              have hM := hM.up3 u k_f0 (by decide)
              have f_a0_X12_11 := u.1 _ _ _ _ f_a0_X12_11
              have f_a0_X12_20 := u.1 _ _ _ _ f_a0_X12_20
              have hRT := hRT.sm (Sm.of3 u k_f0) (by decide) (by decide)
              obtain ⟨v75, e_v75⟩ : ∃ y : Int32, y = p45_l1 + 1 := ⟨_, rfl⟩
              refine lv_iinc (v := v75) (lv' := [(1, .int v75), (0, .ref a0)]) hx hb dX12_choir_75 hl (k := 1) rfl e_v75.symm (by decide) rfl (fun ls hl => ?_)
              have e_v75 : v75.toInt = p45_l1.toInt + 1 := ad_i e_v75 rfl li_1 (by omega) (by omega)
              refine lv_goto (tgt := 45) hx hb dX12_choir_78 (by decide) ?_
              exact ih_45 _ _ _ _ (by omega) ⟨w_6, v75, hw, hM, (by omega), (by omega), f_a0_X12_11, f_a0_X12_20, hRT, (lv_sub hl [1, 0] rfl), rfl⟩
            · simp only [fa_lt, fa_le, fa_eq, li_285] at c_61
              refine lv_aload_n hx hb dX12_choir_64 rfl (lv_at hl 0 rfl) ?_
              refine t_getr (k1 := 59) (ci := 12) (C := RX12) (T := TX12) (N := 38) hx hb hts iX12 hown hw k_a0 rfl rfl rfl 7 (by decide) (hts _ tw_1132) (fun _ h9 => h9) dX12_choir_65 rfl (fun v65 k_v65 f_a0_X12_7 => ?_)
              refine lv_iload_n hx hb dX12_choir_68 rfl (lv_at hl 1 rfl) ?_
              refine t_iald hx hb hw k_v65 rfl rfl (by omega) (show p45_l1.toInt < 285 by omega) dX12_choir_69 (fun v69 r_v69 s_v69 q_v69 => ?_)
              have l_v69 := i32_lo v69
              have h_v69 := i32_hi v69
              refine lv_goto (tgt := 74) hx hb dX12_choir_70 (by decide) ?_
              refine t_iast hx hb hw k_f0 rfl rfl (by omega) (show p45_l1.toInt < 306 by omega) (by rw [aiv_said]; rw [aiv_read] at r_v69 s_v69; exact (ivR_S (by omega) r_v69 s_v69 ⟨i32_lo _, i32_hi _⟩).1) (by rw [aiv_said]; rw [aiv_read] at r_v69 s_v69; exact (ivR_S (by omega) r_v69 s_v69 ⟨i32_lo _, i32_hi _⟩).2) dX12_choir_74 (fun w_7 H locs hw u => ?_)
              have hM := hM.up3 u k_f0 (by decide)
              have f_a0_X12_11 := u.1 _ _ _ _ f_a0_X12_11
              have f_a0_X12_20 := u.1 _ _ _ _ f_a0_X12_20
              have f_a0_X12_7 := u.1 _ _ _ _ f_a0_X12_7
              have hRT := hRT.sm (Sm.of3 u k_f0) (by decide) (by decide)
              obtain ⟨v75, e_v75⟩ : ∃ y : Int32, y = p45_l1 + 1 := ⟨_, rfl⟩
              refine lv_iinc (v := v75) (lv' := [(1, .int v75), (0, .ref a0)]) hx hb dX12_choir_75 hl (k := 1) rfl e_v75.symm (by decide) rfl (fun ls hl => ?_)
              have e_v75 : v75.toInt = p45_l1.toInt + 1 := ad_i e_v75 rfl li_1 (by omega) (by omega)
              refine lv_goto (tgt := 45) hx hb dX12_choir_78 (by decide) ?_
              exact ih_45 _ _ _ _ (by omega) ⟨w_7, v75, hw, hM, (by omega), (by omega), f_a0_X12_11, f_a0_X12_20, hRT, (lv_sub hl [1, 0] rfl), rfl⟩
        exact J45 _ _ _ _ ⟨w_2, 0, hw, hM, (by decide), (by decide), f_a0_X12_11, f_a0_X12_20, hRT, (lv_sub hl [1, 0] rfl), rfl⟩
      · simp only [fa_lt, fa_le, fa_eq, li_0] at c_32
        refine lv_bipush (v := (-2)) hx hb dX12_choir_35 (by decide) ?_
        refine lv_aload_n hx hb dX12_choir_37 rfl (lv_at hl 0 rfl) ?_
        refine t_geti (ci := 12) (C := RX12) (T := TX12) (N := 38) hx hb hts iX12 hown hw k_a0 rfl rfl rfl 9 (by decide) (hts _ tw_1134) (fun _ h9 => h9) dX12_choir_38 rfl (fun v38 l_v38 h_v38 f_a0_X12_9 => ?_)
        have l_v38 : (-2147483648) ≤ v38.toInt := l_v38
        have h_v38 : v38.toInt ≤ 2147483647 := h_v38
        refine lv_isub hx hb dX12_choir_41 ?_
        refine lv_topi (fun v41 e_v41 => ?_)
        have l_v41 := i32_lo v41
        have h_v41 := i32_hi v41
        rw [hQ]
        refine W.widen (k := 0) (n := 0) (Nat.le_refl _) (Nat.le_refl _) ?_
        exact W.iret (v := v41) hx hb hr (fun t ht hW => ⟨⟨v41, w_2, rfl, ⟨hw.2.2.2.2, hM, ⟨f1, (by omega), (by omega), f_f0_M_said_10⟩, hRT⟩, by rw [ht]; exact hw.2.1, va_K.moved hW.alike hw.1, hw.2.2.1⟩, hw.2.2.2.1.F ht⟩) hw.2.2.2.1.2.2 dX12_choir_42
    · simp only [fa_lt, fa_le, fa_eq, li_285] at c_12
      refine lv_aload_n hx hb dX12_choir_15 rfl (lv_at hl 0 rfl) ?_
      refine t_getr (k1 := 59) (ci := 12) (C := RX12) (T := TX12) (N := 38) hx hb hts iX12 hown hw k_a0 rfl rfl rfl 7 (by decide) (hts _ tw_1132) (fun _ h9 => h9) dX12_choir_16 rfl (fun v16 k_v16 f_a0_X12_7 => ?_)
      refine lv_iload_n hx hb dX12_choir_19 rfl (lv_at hl 1 rfl) ?_
      refine lv_iconst (v := 0) hx hb dX12_choir_20 (by decide) ?_
      refine t_iast hx hb hw k_v16 rfl rfl (by omega) (show p8_l1.toInt < 285 by omega) (by rw [aiv_read]; exact (ivR_z _).1) (by rw [aiv_read]; exact (ivR_z _).2) dX12_choir_21 (fun w_8 H locs hw u => ?_)
      have hM := hM.up3 u k_v16 (by decide)
      have f_a0_X12_11 := u.1 _ _ _ _ f_a0_X12_11
      have f_a0_X12_20 := u.1 _ _ _ _ f_a0_X12_20
      have f_f0_M_said_10 := u.2.2.1 _ _ _ f_f0_M_said_10 (Or.inl (ne_k k_f0 k_v16 (by decide)))
      have f_a0_X12_7 := u.1 _ _ _ _ f_a0_X12_7
      have hRT := hRT.sm (Sm.of3 u k_v16) (by decide) (by decide)
      obtain ⟨v22, e_v22⟩ : ∃ y : Int32, y = p8_l1 + 1 := ⟨_, rfl⟩
      refine lv_iinc (v := v22) (lv' := [(1, .int v22), (0, .ref a0)]) hx hb dX12_choir_22 hl (k := 1) rfl e_v22.symm (by decide) rfl (fun ls hl => ?_)
      have e_v22 : v22.toInt = p8_l1.toInt + 1 := ad_i e_v22 rfl li_1 (by omega) (by omega)
      refine lv_goto (tgt := 8) hx hb dX12_choir_25 (by decide) ?_
      exact ih_8 _ _ _ _ (by omega) ⟨w_8, v22, hw, hM, (by omega), (by omega), f_a0_X12_11, f_a0_X12_20, f_f0_M_said_10, hRT, (lv_sub hl [1, 0] rfl), rfl⟩
  exact J8 _ _ _ _ ⟨w_1, 0, hw, hM, (by decide), (by decide), f_a0_X12_11, f_a0_X12_20, f_f0_M_said_10, hRT, (lv_sub hl [1, 0] rfl), rfl⟩
set_option maxHeartbeats 4000000 in
set_option maxRecDepth 100000 in
theorem t_X12_day (l : Launch) (dC : Nat → ClassId) (dI : Nat → Nat → Nat) (tys : List (ClassId × FieldType)) (κ : tK) (B : Nat) (ws : va_W) (hT : Ty κ tys B ws) (a0 : Nat) (k_a0 : κ a0 = some 12) (f0 : Nat) (k_f0 : κ f0 = some 63) (f_a0_X12_20 : fld ws a0 12 20 (.ref f0)) (f1 : Int32) (l_f1 : 0 ≤ f1.toInt) (h_f1 : f1.toInt ≤ 999) (f_f0_M_said_10 : elt ws f0 (10 : Int32).toInt.toNat f1) (hRT : RT κ ws a0) (sz : Nat) : Met l yX12_day (ws_u yX12_day cX12_day 1 (some .int)) ({ frames := 9, cells := 0, slots := 0, locals := 210 }) (va_Pc [.ref a0] (cPre (dC, dI) tys ws sz)) (va_Qi (fun (r : Int32) (w : va_W) => (-2) ≤ r.toInt ∧ r.toInt ≤ 5 ∧ Ty κ tys B w ∧ Sm [(12, 18), (12, 24), (12, 26)] [61, 62, 63, 64, 65] κ ws w ∧ (∃ (xd : Int32), 0 ≤ xd.toInt ∧ xd.toInt ≤ 999 ∧ elt w f0 (10 : Int32).toInt.toNat xd)) (fun w t => cPost (dC, dI) tys w (va_A ws sz) t) (va_A ws sz)) 0 0 (va_A ws sz) := by
  refine Met.ofW (cc := cX12_day) (maxL := 1) (ret := (some .int)) (by decide) rfl ?_
  intro p e s m args below meth c s₁ B0 hml hv
  obtain ⟨rfl, hsz, hP, hK, hD0, hE⟩ := hv
  have hx := B0.exec
  have hb := B0.bytes
  have hr := B0.returns
  have hts0 := atoms_spec (ws := ws_u yX12_day cX12_day 1 (some .int)) B0.pre
  have hts : ∀ w ∈ gT, w.before _ s = true := fun w h => hts0 w (List.mem_cons_of_mem _ h)
  have hown : s.vm.findClass RX12 = some m.cls := findClass_of_methodNamed B0.named
  have hlocks := B0.notSynchronized
  subst hsz
  have hD := hD0.self (sz := s.heap.size)
  generalize hAe : va_A ws s.heap.size = A at hD ⊢
  have hA : ∀ q : Nat, s.heap.size ≤ q → A q := fun q h => by rw [← hAe]; exact Or.inr h
  have hw : tW (dC, dI) tys κ B A s ws s.heap [] := ⟨hK, hP, hD, va_S.rf, hT⟩
  have hM : Sm [(12, 18), (12, 24), (12, 26)] [61, 62, 63, 64, 65] κ ws ws := Sm.rf
  clear hP hK hD hD0 hts0
  have hl := lv_entry ([.ref a0]) (n := 1) (Nat.le_of_ble_eq_true rfl)
  rw [lg_entry_eq]
  generalize (lg_sl ([.ref a0]) ++ List.replicate (1 - (lg_sl ([.ref a0])).length) Slot.unset).toArray = ls at hl ⊢
  have hl : lv_has ls 1 [(0, .ref a0)] := hl
  refine t_start (fun QQ hQ => ?_)
  refine lv_aload_n hx hb dX12_day_0 rfl (lv_at hl 0 rfl) ?_
  refine t_calli (va_runV (As := []) (rest := []) ⟨hx, hb, hml, hown, hts⟩ (t_X12_isChoir l dC dI tys κ B ws hw.2.2.2.2 a0 k_a0 s.heap.size) (cwV 0 hts (gUV tw_1489 tw_1491 ts_5_12 tw_13 tw_1492) rfl rfl rfl (by decide +kernel) ⟨(Nat.le_of_ble_eq_true rfl), (Nat.le_of_ble_eq_true rfl)⟩) ⟨cPre.blind, t_recv hw (ci := 12) k_a0 rfl rfl, cPre.use hw.2.1 hw.1 hw.2.2.1 hE⟩ rfl rfl hl.1 rfl (lv_room (Nat.le_of_ble_eq_true rfl)) dX12_day_1 ⟨(Nat.le_of_ble_eq_true rfl), (Nat.le_of_ble_eq_true rfl)⟩) hw hA (fun _ _ h => h.2.2.1) (fun v1 w_1 H locs hp hw => ?_)
  obtain ⟨l_v1, h_v1, _, hm⟩ := hp
  have hM := hM.trans hm (by decide) (by decide)
  have f_a0_X12_20 := hm.1 _ _ _ _ f_a0_X12_20 (by decide)
  have f_f0_M_said_10 := hm.elt k_f0 (by decide) f_f0_M_said_10
  refine lv_if_eq (tgt := 20) hx hb dX12_day_4 (by decide) (fun c_4 => ?_) (fun c_4 => ?_)
  · simp only [fa_lt, fa_le, fa_eq, li_0] at c_4
    refine lv_bipush (v := (-2)) hx hb dX12_day_20 (by decide) ?_
    rw [hQ]
    refine W.widen (k := 0) (n := 0) (Nat.le_refl _) (Nat.le_refl _) ?_
    exact W.iret (v := (-2)) hx hb hr (fun t ht hW => ⟨⟨(-2), w_1, rfl, ⟨(by decide), (by decide), hw.2.2.2.2, hM, ⟨f1, (by omega), (by omega), f_f0_M_said_10⟩⟩, by rw [ht]; exact hw.2.1, va_K.moved hW.alike hw.1, hw.2.2.1⟩, hw.2.2.2.1.F ht⟩) hw.2.2.2.1.2.2 dX12_day_22
  · simp only [fa_lt, fa_le, fa_eq, li_0] at c_4
    refine lv_aload_n hx hb dX12_day_7 rfl (lv_at hl 0 rfl) ?_
    refine t_getk (ci := 12) (C := RX12) (T := TX12) (N := 38) hx hb hts iX12 hown hw rfl 20 (by decide) (hts _ tw_1145) (fun _ h9 => h9) dX12_day_8 f_a0_X12_20 ?_
    refine lv_bipush (v := 10) hx hb dX12_day_11 (by decide) ?_
    refine t_ialdk hx hb hw k_f0 rfl rfl (by decide) (by decide) f_f0_M_said_10 dX12_day_13 ?_
    refine lv_sipush (v := 999) hx hb dX12_day_14 (by decide) ?_
    refine lv_icmp_ne (tgt := 23) hx hb dX12_day_17 (by decide) (fun c_17 => ?_) (fun c_17 => ?_)
    · simp only [fa_lt, fa_le, fa_eq, li_999] at c_17
      refine lv_aload_n hx hb dX12_day_23 rfl (lv_at hl 0 rfl) ?_
      refine t_callv (va_runV (As := []) (rest := []) ⟨hx, hb, hml, hown, hts⟩ (t_X12_keepsAct l dC dI tys κ B w_1 hw.2.2.2.2 a0 k_a0 f0 k_f0 f_a0_X12_20 f1 (by omega) (by omega) f_f0_M_said_10 H.size) (cwV 0 hts (gUV tw_1493 tw_1495 ts_5_13 tw_13 tw_1496) rfl rfl rfl (by decide +kernel) ⟨(Nat.le_of_ble_eq_true rfl), (Nat.le_of_ble_eq_true rfl)⟩) ⟨cPre.blind, t_recv hw (ci := 12) k_a0 rfl rfl, cPre.use hw.2.1 hw.1 hw.2.2.1 hE⟩ rfl rfl hl.1 rfl (lv_room (Nat.le_of_ble_eq_true rfl)) dX12_day_24 ⟨(Nat.le_of_ble_eq_true rfl), (Nat.le_of_ble_eq_true rfl)⟩) hw hA (fun _ h => h.1) (fun w_2 H locs hp hw => ?_)
      obtain ⟨_, hm⟩ := hp
      have hM := hM.trans hm (by decide) (by decide)
      have f_a0_X12_20 := hm.1 _ _ _ _ f_a0_X12_20 (by decide)
      have f_f0_M_said_10 := hm.elt k_f0 (by decide) f_f0_M_said_10
      refine lv_aload_n hx hb dX12_day_27 rfl (lv_at hl 0 rfl) ?_
      refine t_callv (va_runV (As := []) (rest := []) ⟨hx, hb, hml, hown, hts⟩ (t_X12_passes l dC dI tys κ B w_2 hw.2.2.2.2 a0 k_a0 f0 k_f0 f_a0_X12_20 f1 (by omega) (by omega) f_f0_M_said_10 (hRT.sm hM (by decide) (by decide)) H.size) (cwV 0 hts (gUV tw_1497 tw_1499 ts_5_14 tw_13 tw_1500) rfl rfl rfl (by decide +kernel) ⟨(Nat.le_of_ble_eq_true rfl), (Nat.le_of_ble_eq_true rfl)⟩) ⟨cPre.blind, t_recv hw (ci := 12) k_a0 rfl rfl, cPre.use hw.2.1 hw.1 hw.2.2.1 hE⟩ rfl rfl hl.1 rfl (lv_room (Nat.le_of_ble_eq_true rfl)) dX12_day_28 ⟨(Nat.le_of_ble_eq_true rfl), (Nat.le_of_ble_eq_true rfl)⟩) hw hA (fun _ h => h.1) (fun w_3 H locs hp hw => ?_)
      obtain ⟨_, hm, ⟨v28d, l_v28d, h_v28d, f_f0_M_said_10, y_v28⟩⟩ := hp
      have hM := hM.trans hm (by decide) (by decide)
      have f_a0_X12_20 := hm.1 _ _ _ _ f_a0_X12_20 (by decide)
      refine lv_aload_n hx hb dX12_day_31 rfl (lv_at hl 0 rfl) ?_
      refine t_getk (ci := 12) (C := RX12) (T := TX12) (N := 38) hx hb hts iX12 hown hw rfl 20 (by decide) (hts _ tw_1145) (fun _ h9 => h9) dX12_day_32 f_a0_X12_20 ?_
      refine lv_bipush (v := 11) hx hb dX12_day_35 (by decide) ?_
      refine t_iald hx hb hw k_f0 rfl rfl (by decide) (by decide) dX12_day_37 (fun v37 r_v37 s_v37 f_f0_M_said_11 => ?_)
      have l_v37 : (-1) ≤ v37.toInt := by rw [iv_63_11] at r_v37; exact r_v37
      have h_v37 : v37.toInt ≤ 5 := by rw [iv_63_11] at s_v37; exact s_v37
      rw [hQ]
      refine W.widen (k := 0) (n := 0) (Nat.le_refl _) (Nat.le_refl _) ?_
      exact W.iret (v := v37) hx hb hr (fun t ht hW => ⟨⟨v37, w_3, rfl, ⟨(by omega), (by omega), hw.2.2.2.2, hM, ⟨v28d, (by omega), (by omega), f_f0_M_said_10⟩⟩, by rw [ht]; exact hw.2.1, va_K.moved hW.alike hw.1, hw.2.2.1⟩, hw.2.2.2.1.F ht⟩) hw.2.2.2.1.2.2 dX12_day_38
    · simp only [fa_lt, fa_le, fa_eq, li_999] at c_17
      refine lv_bipush (v := (-2)) hx hb dX12_day_20 (by decide) ?_
      rw [hQ]
      refine W.widen (k := 0) (n := 0) (Nat.le_refl _) (Nat.le_refl _) ?_
      exact W.iret (v := (-2)) hx hb hr (fun t ht hW => ⟨⟨(-2), w_1, rfl, ⟨(by decide), (by decide), hw.2.2.2.2, hM, ⟨f1, (by omega), (by omega), f_f0_M_said_10⟩⟩, by rw [ht]; exact hw.2.1, va_K.moved hW.alike hw.1, hw.2.2.1⟩, hw.2.2.2.1.F ht⟩) hw.2.2.2.1.2.2 dX12_day_22
set_option maxHeartbeats 4000000 in
set_option maxRecDepth 100000 in
theorem t_X12_fillsFits (l : Launch) (dC : Nat → ClassId) (dI : Nat → Nat → Nat) (tys : List (ClassId × FieldType)) (κ : tK) (B : Nat) (ws : va_W) (hT : Ty κ tys B ws) (a0 : Nat) (k_a0 : κ a0 = some 12) (f0 : Nat) (k_f0 : κ f0 = some 63) (f_a0_X12_20 : fld ws a0 12 20 (.ref f0)) (f1 : Int32) (l_f1 : 0 ≤ f1.toInt) (h_f1 : f1.toInt ≤ 999) (f_f0_M_said_10 : elt ws f0 (10 : Int32).toInt.toNat f1) (hRT : RT κ ws a0) (sz : Nat) : Met l yX12_fillsFits (ws_u yX12_fillsFits cX12_fillsFits 5 none) ({ frames := 9, cells := 0, slots := 0, locals := 210 }) (va_Pc [.ref a0] (cPre (dC, dI) tys ws sz)) (va_Qv (fun (w : va_W) => Ty κ tys B w ∧ Sm [(12, 18), (12, 21), (12, 24)] [61, 62, 63, 64, 66, 70, 71] κ ws w ∧ (∃ (xd : Int32), 0 ≤ xd.toInt ∧ xd.toInt ≤ 999 ∧ elt w f0 (10 : Int32).toInt.toNat xd)) (fun w t => cPost (dC, dI) tys w (va_A ws sz) t) (va_A ws sz)) 0 0 (va_A ws sz) := by
  refine Met.ofW (cc := cX12_fillsFits) (maxL := 5) (ret := none) (by decide) rfl ?_
  intro p e s m args below meth c s₁ B0 hml hv
  obtain ⟨rfl, hsz, hP, hK, hD0, hE⟩ := hv
  have hx := B0.exec
  have hb := B0.bytes
  have hr := B0.returns
  have hts0 := atoms_spec (ws := ws_u yX12_fillsFits cX12_fillsFits 5 none) B0.pre
  have hts : ∀ w ∈ gT, w.before _ s = true := fun w h => hts0 w (List.mem_cons_of_mem _ h)
  have hown : s.vm.findClass RX12 = some m.cls := findClass_of_methodNamed B0.named
  have hlocks := B0.notSynchronized
  subst hsz
  have hD := hD0.self (sz := s.heap.size)
  generalize hAe : va_A ws s.heap.size = A at hD ⊢
  have hA : ∀ q : Nat, s.heap.size ≤ q → A q := fun q h => by rw [← hAe]; exact Or.inr h
  have hw : tW (dC, dI) tys κ B A s ws s.heap [] := ⟨hK, hP, hD, va_S.rf, hT⟩
  have hM : Sm [(12, 18), (12, 21), (12, 24)] [61, 62, 63, 64, 66, 70, 71] κ ws ws := Sm.rf
  clear hP hK hD hD0 hts0
  have hl := lv_entry ([.ref a0]) (n := 5) (Nat.le_of_ble_eq_true rfl)
  rw [lg_entry_eq]
  generalize (lg_sl ([.ref a0]) ++ List.replicate (5 - (lg_sl ([.ref a0])).length) Slot.unset).toArray = ls at hl ⊢
  have hl : lv_has ls 5 [(0, .ref a0)] := hl
  refine t_start (fun QQ hQ => ?_)
  refine lv_aload_n hx hb dX12_fillsFits_0 rfl (lv_at hl 0 rfl) ?_
  refine t_geti (ci := 12) (C := RX12) (T := TX12) (N := 38) hx hb hts iX12 hown hw k_a0 rfl rfl rfl 21 (by decide) (hts _ tw_1146) (fun _ h9 => h9) dX12_fillsFits_1 rfl (fun v1 l_v1 h_v1 f_a0_X12_21 => ?_)
  have l_v1 : (-1) ≤ v1.toInt := l_v1
  have h_v1 : v1.toInt ≤ 5 := h_v1
  refine lv_istore_n (lv' := [(1, .int v1), (0, .ref a0)]) hx hb dX12_fillsFits_4 rfl hl (by decide) rfl (fun ls hl => ?_)
  refine lv_aload_n hx hb dX12_fillsFits_5 rfl (lv_at hl 1 rfl) ?_
  refine t_callv (va_runV (As := []) (rest := []) ⟨hx, hb, hml, hown, hts⟩ (t_X12_keeps l dC dI tys κ B ws hw.2.2.2.2 a0 k_a0 f0 k_f0 f_a0_X12_20 f1 (by omega) (by omega) f_f0_M_said_10 s.heap.size) (cwV 0 hts (gUV tw_1598 tw_1600 ts_7_0 tw_13 tw_1601) rfl rfl rfl (by decide +kernel) ⟨(Nat.le_of_ble_eq_true rfl), (Nat.le_of_ble_eq_true rfl)⟩) ⟨cPre.blind, t_recv hw (ci := 12) k_a0 rfl rfl, cPre.use hw.2.1 hw.1 hw.2.2.1 hE⟩ rfl rfl hl.1 rfl (lv_room (Nat.le_of_ble_eq_true rfl)) dX12_fillsFits_6 ⟨(Nat.le_of_ble_eq_true rfl), (Nat.le_of_ble_eq_true rfl)⟩) hw hA (fun _ h => h.1) (fun w_1 H locs hp hw => ?_)
  obtain ⟨_, hm⟩ := hp
  have hM := hM.trans hm (by decide) (by decide)
  have f_a0_X12_20 := hm.1 _ _ _ _ f_a0_X12_20 (by decide)
  have f_f0_M_said_10 := hm.elt k_f0 (by decide) f_f0_M_said_10
  have f_a0_X12_21 := hm.1 _ _ _ _ f_a0_X12_21 (by decide)
  refine lv_iconst (v := 0) hx hb dX12_fillsFits_9 (by decide) ?_
  refine lv_istore_n (lv' := [(2, .int 0), (1, .int v1), (0, .ref a0)]) hx hb dX12_fillsFits_10 rfl hl (by decide) rfl (fun ls hl => ?_)
  have J11 : ∀ (n : Nat) (H : Heap) (locs : List Loc) (ls : Array Slot), (∃ (w11 : va_W) (p11_l2 : Int32) (p11_m_a0_X12_21 : Int32) (p11_m_f0_M_said_10 : Int32), tW (dC, dI) tys κ B A s w11 H locs ∧ Sm [(12, 18), (12, 21), (12, 24)] [61, 62, 63, 64, 66, 70, 71] κ ws w11 ∧ 0 ≤ p11_l2.toInt ∧ p11_l2.toInt ≤ 7 ∧ (-1) ≤ p11_m_a0_X12_21.toInt ∧ p11_m_a0_X12_21.toInt ≤ 5 ∧ 0 ≤ p11_m_f0_M_said_10.toInt ∧ p11_m_f0_M_said_10.toInt ≤ 1999 ∧ fld w11 a0 12 20 (.ref f0) ∧ fld w11 a0 12 21 (.int p11_m_a0_X12_21) ∧ elt w11 f0 (10 : Int32).toInt.toNat p11_m_f0_M_said_10 ∧ lv_has ls 5 [(0, .ref a0), (1, .int v1), (2, .int p11_l2)] ∧ (7 - p11_l2.toInt).toNat = n) → W p l e (headSpec (ws_u yX12_fillsFits cX12_fillsFits 5 none) ({ frames := 9, cells := 0, slots := 0, locals := 210 })).room s m ([.ref a0] : List Value).toArray below meth c H locs 0 0 QQ (F0 m 11 ls []) := by
    refine loopT _ ?_
    intro n_11 H locs ls hI ih_11
    obtain ⟨w11, p11_l2, p11_m_a0_X12_21, p11_m_f0_M_said_10, hw, hM, l_p11_l2, h_p11_l2, l_p11_m_a0_X12_21, h_p11_m_a0_X12_21, l_p11_m_f0_M_said_10, h_p11_m_f0_M_said_10, f_a0_X12_20, f_a0_X12_21, f_f0_M_said_10, hl, hn_11⟩ := hI
    refine lv_iload_n hx hb dX12_fillsFits_11 rfl (lv_at hl 2 rfl) ?_
    refine lv_aload_n hx hb dX12_fillsFits_12 rfl (lv_at hl 0 rfl) ?_
    refine t_geti (ci := 12) (C := RX12) (T := TX12) (N := 38) hx hb hts iX12 hown hw k_a0 rfl rfl rfl 2 (by decide) (hts _ tw_1127) (fun _ h9 => h9) dX12_fillsFits_13 rfl (fun v13 l_v13 h_v13 f_a0_X12_2 => ?_)
    have l_v13 : 0 ≤ v13.toInt := l_v13
    have h_v13 : v13.toInt ≤ 6 := h_v13
    refine lv_icmp_gt (tgt := 152) hx hb dX12_fillsFits_16 (by decide) (fun c_16 => ?_) (fun c_16 => ?_)
    · simp only [fa_lt, fa_le, fa_eq] at c_16
      refine lv_aload_n hx hb dX12_fillsFits_152 rfl (lv_at hl 0 rfl) ?_
      refine lv_iload_n hx hb dX12_fillsFits_153 rfl (lv_at hl 1 rfl) ?_
      refine t_put (ci := 12) (C := RX12) (T := TX12) (N := 38) (v := .int v1) hx hb hts iX12 tyX12 tyX12_ok nmX12 hown hw k_a0 rfl rfl rfl 21 (by decide) (hts _ tw_1146) (fun _ h9 => h9) rfl (tyX12_ok 21 (by decide)) rfl rfl (okV.int rfl (by omega) (by omega)) dX12_fillsFits_154 (fun w_2 H locs hw u => ?_)
      have hM := hM.up1 u (by decide)
      have f_a0_X12_20 := u.1 _ _ _ _ f_a0_X12_20 (Or.inr (Or.inr (by decide)))
      have f_a0_X12_21 := u.2.2
      have f_f0_M_said_10 := u.elt f_f0_M_said_10
      have f_a0_X12_2 := u.1 _ _ _ _ f_a0_X12_2 (Or.inr (Or.inr (by decide)))
      refine lv_aload_n hx hb dX12_fillsFits_157 rfl (lv_at hl 0 rfl) ?_
      refine t_callv (va_runV (As := []) (rest := []) ⟨hx, hb, hml, hown, hts⟩ (t_X12_laysBack l dC dI tys κ B w_2 hw.2.2.2.2 a0 k_a0 f0 k_f0 f_a0_X12_20 H.size) (cwV 0 hts (gUV tw_1602 tw_1604 ts_7_1 tw_13 tw_1605) rfl rfl rfl (by decide +kernel) ⟨(Nat.le_of_ble_eq_true rfl), (Nat.le_of_ble_eq_true rfl)⟩) ⟨cPre.blind, t_recv hw (ci := 12) k_a0 rfl rfl, cPre.use hw.2.1 hw.1 hw.2.2.1 hE⟩ rfl rfl hl.1 rfl (lv_room (Nat.le_of_ble_eq_true rfl)) dX12_fillsFits_158 ⟨(Nat.le_of_ble_eq_true rfl), (Nat.le_of_ble_eq_true rfl)⟩) hw hA (fun _ h => h.1) (fun w_3 H locs hp hw => ?_)
      obtain ⟨_, hm, ⟨v158d, l_v158d, h_v158d, f_f0_M_said_10⟩⟩ := hp
      have hM := hM.trans hm (by decide) (by decide)
      have f_a0_X12_20 := hm.1 _ _ _ _ f_a0_X12_20 (by decide)
      have f_a0_X12_21 := hm.1 _ _ _ _ f_a0_X12_21 (by decide)
      have f_a0_X12_2 := hm.1 _ _ _ _ f_a0_X12_2 (by decide)
      rw [hQ]
      refine W.widen (k := 0) (n := 0) (Nat.le_refl _) (Nat.le_refl _) ?_
      exact W.vret hx hb hr (fun t ht hW => ⟨⟨w_3, rfl, ⟨hw.2.2.2.2, hM, ⟨v158d, (by omega), (by omega), f_f0_M_said_10⟩⟩, by rw [ht]; exact hw.2.1, va_K.moved hW.alike hw.1, hw.2.2.1⟩, hw.2.2.2.1.F ht⟩) hw.2.2.2.1.2.2 dX12_fillsFits_161
    · simp only [fa_lt, fa_le, fa_eq] at c_16
      refine lv_aload_n hx hb dX12_fillsFits_19 rfl (lv_at hl 0 rfl) ?_
      refine lv_iload_n hx hb dX12_fillsFits_20 rfl (lv_at hl 2 rfl) ?_
      refine lv_iconst (v := 1) hx hb dX12_fillsFits_21 (by decide) ?_
      refine lv_isub hx hb dX12_fillsFits_22 ?_
      refine lv_topi (fun v22 e_v22 => ?_)
      have e_v22 : v22.toInt = p11_l2.toInt - 1 := sb_i e_v22 rfl li_1 (by omega) (by omega)
      refine t_put (ci := 12) (C := RX12) (T := TX12) (N := 38) (v := .int v22) hx hb hts iX12 tyX12 tyX12_ok nmX12 hown hw k_a0 rfl rfl rfl 21 (by decide) (hts _ tw_1146) (fun _ h9 => h9) rfl (tyX12_ok 21 (by decide)) rfl rfl (okV.int rfl (by omega) (by omega)) dX12_fillsFits_23 (fun w_4 H locs hw u => ?_)
      have hM := hM.up1 u (by decide)
      have f_a0_X12_20 := u.1 _ _ _ _ f_a0_X12_20 (Or.inr (Or.inr (by decide)))
      have f_a0_X12_21 := u.2.2
      have f_f0_M_said_10 := u.elt f_f0_M_said_10
      have f_a0_X12_2 := u.1 _ _ _ _ f_a0_X12_2 (Or.inr (Or.inr (by decide)))
      refine lv_aload_n hx hb dX12_fillsFits_26 rfl (lv_at hl 0 rfl) ?_
      refine t_callv (va_runV (As := []) (rest := []) ⟨hx, hb, hml, hown, hts⟩ (t_X12_begins l dC dI tys κ B w_4 hw.2.2.2.2 a0 k_a0 f0 k_f0 f_a0_X12_20 H.size) (cwV 0 hts (gUV tw_1432 tw_1434 ts_5_5 tw_13 tw_1435) rfl rfl rfl (by decide +kernel) ⟨(Nat.le_of_ble_eq_true rfl), (Nat.le_of_ble_eq_true rfl)⟩) ⟨cPre.blind, t_recv hw (ci := 12) k_a0 rfl rfl, cPre.use hw.2.1 hw.1 hw.2.2.1 hE⟩ rfl rfl hl.1 rfl (lv_room (Nat.le_of_ble_eq_true rfl)) dX12_fillsFits_27 ⟨(Nat.le_of_ble_eq_true rfl), (Nat.le_of_ble_eq_true rfl)⟩) hw hA (fun _ h => h.1) (fun w_5 H locs hp hw => ?_)
      obtain ⟨_, hm, ⟨v27d, l_v27d, h_v27d, f_f0_M_said_10⟩⟩ := hp
      have hM := hM.trans hm (by decide) (by decide)
      have f_a0_X12_20 := hm.1 _ _ _ _ f_a0_X12_20 (by decide)
      have f_a0_X12_21 := hm.1 _ _ _ _ f_a0_X12_21 (by decide)
      have f_a0_X12_2 := hm.1 _ _ _ _ f_a0_X12_2 (by decide)
      refine lv_iconst (v := 0) hx hb dX12_fillsFits_30 (by decide) ?_
      refine lv_istore_n (lv' := [(3, .int 0), (0, .ref a0), (1, .int v1), (2, .int p11_l2)]) hx hb dX12_fillsFits_31 rfl hl (by decide) rfl (fun ls hl => ?_)
      have J32 : ∀ (n : Nat) (H : Heap) (locs : List Loc) (ls : Array Slot), (∃ (w32 : va_W) (p32_l3 : Int32) (p32_m_f0_M_said_10 : Int32), tW (dC, dI) tys κ B A s w32 H locs ∧ Sm [(12, 18), (12, 21), (12, 24)] [61, 62, 63, 64, 66, 70, 71] κ ws w32 ∧ 0 ≤ p32_l3.toInt ∧ p32_l3.toInt ≤ 61 ∧ 0 ≤ p32_m_f0_M_said_10.toInt ∧ p32_m_f0_M_said_10.toInt ≤ 1999 ∧ fld w32 a0 12 2 (.int v13) ∧ fld w32 a0 12 20 (.ref f0) ∧ fld w32 a0 12 21 (.int v22) ∧ elt w32 f0 (10 : Int32).toInt.toNat p32_m_f0_M_said_10 ∧ p32_m_f0_M_said_10.toInt ≤ p32_l3.toInt ∧ lv_has ls 5 [(0, .ref a0), (1, .int v1), (2, .int p11_l2), (3, .int p32_l3)] ∧ (61 - p32_l3.toInt).toNat = n) → W p l e (headSpec (ws_u yX12_fillsFits cX12_fillsFits 5 none) ({ frames := 9, cells := 0, slots := 0, locals := 210 })).room s m ([.ref a0] : List Value).toArray below meth c H locs 0 0 QQ (F0 m 32 ls []) := by
        refine loopT _ ?_
        intro n_32 H locs ls hI ih_32
        obtain ⟨w32, p32_l3, p32_m_f0_M_said_10, hw, hM, l_p32_l3, h_p32_l3, l_p32_m_f0_M_said_10, h_p32_m_f0_M_said_10, f_a0_X12_2, f_a0_X12_20, f_a0_X12_21, f_f0_M_said_10, li_32_0, hl, hn_32⟩ := hI
        refine lv_iload_n hx hb dX12_fillsFits_32 rfl (lv_at hl 3 rfl) ?_
        refine lv_bipush (v := 60) hx hb dX12_fillsFits_33 (by decide) ?_
        refine lv_icmp_gt (tgt := 65) hx hb dX12_fillsFits_35 (by decide) (fun c_35 => ?_) (fun c_35 => ?_)
        · simp only [fa_lt, fa_le, fa_eq, li_60] at c_35
          refine lv_iconst (v := 1) hx hb dX12_fillsFits_65 (by decide) ?_
          refine lv_istore_n (lv' := [(3, .int 1), (0, .ref a0), (1, .int v1), (2, .int p11_l2)]) hx hb dX12_fillsFits_66 rfl hl (by decide) rfl (fun ls hl => ?_)
          refine lv_iconst (v := 0) hx hb dX12_fillsFits_67 (by decide) ?_
          refine lv_istore (lv' := [(4, .int 0), (3, .int 1), (0, .ref a0), (1, .int v1), (2, .int p11_l2)]) hx hb dX12_fillsFits_68 hl (by decide) rfl (fun ls hl => ?_)
          have J70 : ∀ (n : Nat) (H : Heap) (locs : List Loc) (ls : Array Slot), (∃ (w70 : va_W) (p70_l3 : Int32) (p70_l4 : Int32), tW (dC, dI) tys κ B A s w70 H locs ∧ Sm [(12, 18), (12, 21), (12, 24)] [61, 62, 63, 64, 66, 70, 71] κ ws w70 ∧ 0 ≤ p70_l3.toInt ∧ p70_l3.toInt ≤ 1 ∧ 0 ≤ p70_l4.toInt ∧ p70_l4.toInt ≤ 10 ∧ fld w70 a0 12 2 (.int v13) ∧ fld w70 a0 12 20 (.ref f0) ∧ fld w70 a0 12 21 (.int v22) ∧ elt w70 f0 (10 : Int32).toInt.toNat p32_m_f0_M_said_10 ∧ lv_has ls 5 [(0, .ref a0), (1, .int v1), (2, .int p11_l2), (3, .int p70_l3), (4, .int p70_l4)] ∧ (10 - p70_l4.toInt).toNat = n) → W p l e (headSpec (ws_u yX12_fillsFits cX12_fillsFits 5 none) ({ frames := 9, cells := 0, slots := 0, locals := 210 })).room s m ([.ref a0] : List Value).toArray below meth c H locs 0 0 QQ (F0 m 70 ls []) := by
            refine loopT _ ?_
            intro n_70 H locs ls hI ih_70
            obtain ⟨w70, p70_l3, p70_l4, hw, hM, l_p70_l3, h_p70_l3, l_p70_l4, h_p70_l4, f_a0_X12_2, f_a0_X12_20, f_a0_X12_21, f_f0_M_said_10, hl, hn_70⟩ := hI
            refine lv_iload hx hb dX12_fillsFits_70 (lv_at hl 4 rfl) ?_
            refine lv_aload_n hx hb dX12_fillsFits_72 rfl (lv_at hl 0 rfl) ?_
            refine t_getk (ci := 12) (C := RX12) (T := TX12) (N := 38) hx hb hts iX12 hown hw rfl 20 (by decide) (hts _ tw_1145) (fun _ h9 => h9) dX12_fillsFits_73 f_a0_X12_20 ?_
            refine lv_sipush (v := 305) hx hb dX12_fillsFits_76 (by decide) ?_
            refine t_iald hx hb hw k_f0 rfl rfl (by decide) (by decide) dX12_fillsFits_79 (fun v79 r_v79 s_v79 f_f0_M_said_305 => ?_)
            have l_v79 : 0 ≤ v79.toInt := by rw [iv_63_305] at r_v79; exact r_v79
            have h_v79 : v79.toInt ≤ 10 := by rw [iv_63_305] at s_v79; exact s_v79
            refine lv_icmp_ge (tgt := 139) hx hb dX12_fillsFits_80 (by decide) (fun c_80 => ?_) (fun c_80 => ?_)
            · simp only [fa_lt, fa_le, fa_eq] at c_80
              refine lv_aload_n hx hb dX12_fillsFits_139 rfl (lv_at hl 0 rfl) ?_
              refine t_getr (k1 := 70) (ci := 12) (C := RX12) (T := TX12) (N := 38) hx hb hts iX12 hown hw k_a0 rfl rfl rfl 31 (by decide) (hts _ tw_1156) (fun _ h9 => h9) dX12_fillsFits_140 rfl (fun v140 k_v140 f_a0_X12_31 => ?_)
              refine lv_iload_n hx hb dX12_fillsFits_143 rfl (lv_at hl 2 rfl) ?_
              refine lv_iload_n hx hb dX12_fillsFits_144 rfl (lv_at hl 3 rfl) ?_
              refine t_zast hx hb hw k_v140 rfl rfl (by omega) (show p11_l2.toInt < 7 by omega) (fun _ => rfl) dX12_fillsFits_145 (fun w_6 H locs hw u => ?_)
              have hM := hM.up3 u k_v140 (by decide)
              have f_a0_X12_2 := u.1 _ _ _ _ f_a0_X12_2
              have f_a0_X12_20 := u.1 _ _ _ _ f_a0_X12_20
              have f_a0_X12_21 := u.1 _ _ _ _ f_a0_X12_21
              have f_f0_M_said_10 := u.2.2.1 _ _ _ f_f0_M_said_10 (Or.inl (ne_k k_f0 k_v140 (by decide)))
              have f_f0_M_said_305 := u.2.2.1 _ _ _ f_f0_M_said_305 (Or.inl (ne_k k_f0 k_v140 (by decide)))
              have f_a0_X12_31 := u.1 _ _ _ _ f_a0_X12_31
              obtain ⟨v146, e_v146⟩ : ∃ y : Int32, y = p11_l2 + 1 := ⟨_, rfl⟩
              refine lv_iinc (v := v146) (lv' := [(2, .int v146), (0, .ref a0), (1, .int v1), (3, .int p70_l3), (4, .int p70_l4)]) hx hb dX12_fillsFits_146 hl (k := 2) rfl e_v146.symm (by decide) rfl (fun ls hl => ?_)
              have e_v146 : v146.toInt = p11_l2.toInt + 1 := ad_i e_v146 rfl li_1 (by omega) (by omega)
              refine lv_goto (tgt := 11) hx hb dX12_fillsFits_149 (by decide) ?_
              exact ih_11 _ _ _ _ (by omega) ⟨w_6, v146, v22, p32_m_f0_M_said_10, hw, hM, (by omega), (by omega), (by omega), (by omega), (by omega), (by omega), f_a0_X12_20, f_a0_X12_21, f_f0_M_said_10, (lv_sub hl [1, 2, 0] rfl), rfl⟩
            · simp only [fa_lt, fa_le, fa_eq] at c_80
              refine lv_iload_n hx hb dX12_fillsFits_83 rfl (lv_at hl 3 rfl) ?_
              have J132 : ∀ (H : Heap) (locs : List Loc) (ls : Array Slot) (w132 : va_W) (p132_s0 : Int32), tW (dC, dI) tys κ B A s w132 H locs → Sm [(12, 18), (12, 21), (12, 24)] [61, 62, 63, 64, 66, 70, 71] κ ws w132 → 0 ≤ p132_s0.toInt → p132_s0.toInt ≤ 1 → fld w132 a0 12 2 (.int v13) → fld w132 a0 12 20 (.ref f0) → fld w132 a0 12 21 (.int v22) → elt w132 f0 (10 : Int32).toInt.toNat p32_m_f0_M_said_10 → elt w132 f0 (305 : Int32).toInt.toNat v79 → lv_has ls 5 [(0, .ref a0), (1, .int v1), (2, .int p11_l2), (3, .int p70_l3), (4, .int p70_l4)] → W p l e (headSpec (ws_u yX12_fillsFits cX12_fillsFits 5 none) ({ frames := 9, cells := 0, slots := 0, locals := 210 })).room s m ([.ref a0] : List Value).toArray below meth c H locs 0 0 QQ (F0 m 132 ls [.int p132_s0]) := by
                intro H locs ls w132 p132_s0 hw hM l_p132_s0 h_p132_s0 f_a0_X12_2 f_a0_X12_20 f_a0_X12_21 f_f0_M_said_10 f_f0_M_said_305 hl
                refine lv_istore_n (lv' := [(3, .int p132_s0), (0, .ref a0), (1, .int v1), (2, .int p11_l2), (4, .int p70_l4)]) hx hb dX12_fillsFits_132 rfl hl (by decide) rfl (fun ls hl => ?_)
                obtain ⟨v133, e_v133⟩ : ∃ y : Int32, y = p70_l4 + 1 := ⟨_, rfl⟩
                refine lv_iinc (v := v133) (lv' := [(4, .int v133), (3, .int p132_s0), (0, .ref a0), (1, .int v1), (2, .int p11_l2)]) hx hb dX12_fillsFits_133 hl (k := 4) rfl e_v133.symm (by decide) rfl (fun ls hl => ?_)
                have e_v133 : v133.toInt = p70_l4.toInt + 1 := ad_i e_v133 rfl li_1 (by omega) (by omega)
                refine lv_goto (tgt := 70) hx hb dX12_fillsFits_136 (by decide) ?_
                exact ih_70 _ _ _ _ (by omega) ⟨w132, p132_s0, v133, hw, hM, (by omega), (by omega), (by omega), (by omega), f_a0_X12_2, f_a0_X12_20, f_a0_X12_21, f_f0_M_said_10, (lv_sub hl [2, 3, 4, 1, 0] rfl), rfl⟩
              have J131 : ∀ (H : Heap) (locs : List Loc) (ls : Array Slot) (w131 : va_W), tW (dC, dI) tys κ B A s w131 H locs → Sm [(12, 18), (12, 21), (12, 24)] [61, 62, 63, 64, 66, 70, 71] κ ws w131 → fld w131 a0 12 2 (.int v13) → fld w131 a0 12 20 (.ref f0) → fld w131 a0 12 21 (.int v22) → elt w131 f0 (10 : Int32).toInt.toNat p32_m_f0_M_said_10 → elt w131 f0 (305 : Int32).toInt.toNat v79 → lv_has ls 5 [(0, .ref a0), (1, .int v1), (2, .int p11_l2), (3, .int p70_l3), (4, .int p70_l4)] → W p l e (headSpec (ws_u yX12_fillsFits cX12_fillsFits 5 none) ({ frames := 9, cells := 0, slots := 0, locals := 210 })).room s m ([.ref a0] : List Value).toArray below meth c H locs 0 0 QQ (F0 m 131 ls []) := by
                intro H locs ls w131 hw hM f_a0_X12_2 f_a0_X12_20 f_a0_X12_21 f_f0_M_said_10 f_f0_M_said_305 hl
                refine lv_iconst (v := 0) hx hb dX12_fillsFits_131 (by decide) ?_
                exact J132 _ _ _ w131 0 hw hM (by decide) (by decide) f_a0_X12_2 f_a0_X12_20 f_a0_X12_21 f_f0_M_said_10 f_f0_M_said_305 (lv_sub hl [0, 1, 2, 3, 4] rfl)
              refine lv_if_eq (tgt := 131) hx hb dX12_fillsFits_84 (by decide) (fun c_84 => ?_) (fun c_84 => ?_)
              · simp only [fa_lt, fa_le, fa_eq, li_0] at c_84
                exact J131 _ _ _ w70 hw hM f_a0_X12_2 f_a0_X12_20 f_a0_X12_21 f_f0_M_said_10 f_f0_M_said_305 (lv_sub hl [0, 1, 2, 3, 4] rfl)
              · simp only [fa_lt, fa_le, fa_eq, li_0] at c_84
                refine lv_aload_n hx hb dX12_fillsFits_87 rfl (lv_at hl 0 rfl) ?_
                refine t_getr (k1 := 71) (ci := 12) (C := RX12) (T := TX12) (N := 38) hx hb hts iX12 hown hw k_a0 rfl rfl rfl 32 (by decide) (hts _ tw_1157) (fun _ h9 => h9) dX12_fillsFits_88 rfl (fun v88 k_v88 f_a0_X12_32 => ?_)
                refine lv_iload_n hx hb dX12_fillsFits_91 rfl (lv_at hl 2 rfl) ?_
                refine lv_aload_n hx hb dX12_fillsFits_92 rfl (lv_at hl 0 rfl) ?_
                refine t_getk (ci := 12) (C := RX12) (T := TX12) (N := 38) hx hb hts iX12 hown hw rfl 20 (by decide) (hts _ tw_1145) (fun _ h9 => h9) dX12_fillsFits_93 f_a0_X12_20 ?_
                refine lv_sipush (v := 285) hx hb dX12_fillsFits_96 (by decide) ?_
                refine lv_iconst (v := 2) hx hb dX12_fillsFits_99 (by decide) ?_
                refine lv_iload hx hb dX12_fillsFits_100 (lv_at hl 4 rfl) ?_
                refine lv_imul hx hb dX12_fillsFits_102 ?_
                refine lv_topi (fun v102 e_v102 => ?_)
                have e_v102 : v102.toInt = 2 * p70_l4.toInt := ml_i e_v102 li_2 rfl (by omega) (by omega)
                refine lv_iadd hx hb dX12_fillsFits_103 ?_
                refine lv_topi (fun v103 e_v103 => ?_)
                have e_v103 : v103.toInt = 285 + v102.toInt := ad_i e_v103 li_285 rfl (by omega) (by omega)
                refine t_iald hx hb hw k_f0 rfl rfl (by omega) (show v103.toInt < 306 by omega) dX12_fillsFits_104 (fun v104 r_v104 s_v104 q_v104 => ?_)
                have hj_v104 : v103.toInt.toNat = 285 + 2 * p70_l4.toInt.toNat := by omega
                have l_v104 : 0 ≤ v104.toInt := by rw [aiv_said, hj_v104, ivS_note (by omega)] at r_v104; exact r_v104
                have h_v104 : v104.toInt ≤ 60 := by rw [aiv_said, hj_v104, ivS_note (by omega)] at s_v104; exact s_v104
                refine t_calli (va_runS (As := [.int p11_l2, .int v104]) (rest := [.ref v88]) ⟨hx, hb, hml, hown, hts⟩ (t_X12_spot l dC dI tys κ B w70 hw.2.2.2.2 p11_l2 (by omega) (by omega) v104 (by omega) (by omega) H.size) (va_cwS 2 hts (gUS tw_1712 tw_1713 tw_13 tw_1714) rfl rfl rfl (by decide +kernel) ⟨(Nat.le_of_ble_eq_true rfl), (Nat.le_of_ble_eq_true rfl)⟩) ⟨cPre.blind, cPre.use hw.2.1 hw.1 hw.2.2.1 hE⟩ rfl rfl hl.1 rfl (lv_room (Nat.le_of_ble_eq_true rfl)) dX12_fillsFits_105 ⟨(Nat.le_of_ble_eq_true rfl), (Nat.le_of_ble_eq_true rfl)⟩) hw hA (fun _ _ h => h.2.2.1) (fun v105 w_7 H locs hp hw => ?_)
                obtain ⟨l_v105, h_v105, _, hm⟩ := hp
                have hM := hM.trans hm (by decide) (by decide)
                have f_a0_X12_2 := hm.1 _ _ _ _ f_a0_X12_2 (by decide)
                have f_a0_X12_20 := hm.1 _ _ _ _ f_a0_X12_20 (by decide)
                have f_a0_X12_21 := hm.1 _ _ _ _ f_a0_X12_21 (by decide)
                have f_f0_M_said_10 := hm.elt k_f0 (by decide) f_f0_M_said_10
                have f_f0_M_said_305 := hm.elt k_f0 (by decide) f_f0_M_said_305
                have f_a0_X12_32 := hm.1 _ _ _ _ f_a0_X12_32 (by decide)
                refine t_iald hx hb hw k_v88 rfl rfl (by omega) (show v105.toInt < 427 by omega) dX12_fillsFits_108 (fun v108 r_v108 s_v108 q_v108 => ?_)
                have l_v108 := i32_lo v108
                have h_v108 := i32_hi v108
                refine lv_aload_n hx hb dX12_fillsFits_109 rfl (lv_at hl 0 rfl) ?_
                refine t_getk (ci := 12) (C := RX12) (T := TX12) (N := 38) hx hb hts iX12 hown hw rfl 20 (by decide) (hts _ tw_1145) (fun _ h9 => h9) dX12_fillsFits_110 f_a0_X12_20 ?_
                refine lv_sipush (v := 285) hx hb dX12_fillsFits_113 (by decide) ?_
                refine lv_iconst (v := 2) hx hb dX12_fillsFits_116 (by decide) ?_
                refine lv_iload hx hb dX12_fillsFits_117 (lv_at hl 4 rfl) ?_
                refine lv_imul hx hb dX12_fillsFits_119 ?_
                refine lv_topi (fun v119 e_v119 => ?_)
                have e_v119 : v119.toInt = 2 * p70_l4.toInt := ml_i e_v119 li_2 rfl (by omega) (by omega)
                refine lv_iadd hx hb dX12_fillsFits_120 ?_
                refine lv_topi (fun v120 e_v120 => ?_)
                have e_v120 : v120.toInt = 285 + v119.toInt := ad_i e_v120 li_285 rfl (by omega) (by omega)
                refine lv_iconst (v := 1) hx hb dX12_fillsFits_121 (by decide) ?_
                refine lv_iadd hx hb dX12_fillsFits_122 ?_
                refine lv_topi (fun v122 e_v122 => ?_)
                have e_v122 : v122.toInt = v120.toInt + 1 := ad_i e_v122 rfl li_1 (by omega) (by omega)
                refine t_iald hx hb hw k_f0 rfl rfl (by omega) (show v122.toInt < 306 by omega) dX12_fillsFits_123 (fun v123 r_v123 s_v123 q_v123 => ?_)
                have l_v123 := i32_lo v123
                have h_v123 := i32_hi v123
                refine lv_icmp_ne (tgt := 131) hx hb dX12_fillsFits_124 (by decide) (fun c_124 => ?_) (fun c_124 => ?_)
                · simp only [fa_lt, fa_le, fa_eq] at c_124
                  exact J131 _ _ _ w_7 hw hM f_a0_X12_2 f_a0_X12_20 f_a0_X12_21 f_f0_M_said_10 f_f0_M_said_305 (lv_sub hl [0, 1, 2, 3, 4] rfl)
                · simp only [fa_lt, fa_le, fa_eq] at c_124
                  refine lv_iconst (v := 1) hx hb dX12_fillsFits_127 (by decide) ?_
                  refine lv_goto (tgt := 132) hx hb dX12_fillsFits_128 (by decide) ?_
                  exact J132 _ _ _ w_7 1 hw hM (by decide) (by decide) f_a0_X12_2 f_a0_X12_20 f_a0_X12_21 f_f0_M_said_10 f_f0_M_said_305 (lv_sub hl [0, 1, 2, 3, 4] rfl)
          exact J70 _ _ _ _ ⟨w32, 1, 0, hw, hM, (by decide), (by decide), (by decide), (by decide), f_a0_X12_2, f_a0_X12_20, f_a0_X12_21, f_f0_M_said_10, (lv_sub hl [2, 3, 4, 1, 0] rfl), rfl⟩
        · simp only [fa_lt, fa_le, fa_eq, li_60] at c_35
          refine lv_aload_n hx hb dX12_fillsFits_38 rfl (lv_at hl 0 rfl) ?_
          refine t_callv (va_runV (As := []) (rest := []) ⟨hx, hb, hml, hown, hts⟩ (t_X12_passes l dC dI tys κ B w32 hw.2.2.2.2 a0 k_a0 f0 k_f0 f_a0_X12_20 p32_m_f0_M_said_10 (by omega) (by omega) f_f0_M_said_10 (hRT.sm hM (by decide) (by decide)) H.size) (cwV 0 hts (gUV tw_1497 tw_1499 ts_5_14 tw_13 tw_1500) rfl rfl rfl (by decide +kernel) ⟨(Nat.le_of_ble_eq_true rfl), (Nat.le_of_ble_eq_true rfl)⟩) ⟨cPre.blind, t_recv hw (ci := 12) k_a0 rfl rfl, cPre.use hw.2.1 hw.1 hw.2.2.1 hE⟩ rfl rfl hl.1 rfl (lv_room (Nat.le_of_ble_eq_true rfl)) dX12_fillsFits_39 ⟨(Nat.le_of_ble_eq_true rfl), (Nat.le_of_ble_eq_true rfl)⟩) hw hA (fun _ h => h.1) (fun w_8 H locs hp hw => ?_)
          obtain ⟨_, hm, ⟨v39d, l_v39d, h_v39d, f_f0_M_said_10, y_v39⟩⟩ := hp
          have hM := hM.trans hm (by decide) (by decide)
          have f_a0_X12_2 := hm.1 _ _ _ _ f_a0_X12_2 (by decide)
          have f_a0_X12_20 := hm.1 _ _ _ _ f_a0_X12_20 (by decide)
          have f_a0_X12_21 := hm.1 _ _ _ _ f_a0_X12_21 (by decide)
          refine lv_aload_n hx hb dX12_fillsFits_42 rfl (lv_at hl 0 rfl) ?_
          refine t_getr (k1 := 71) (ci := 12) (C := RX12) (T := TX12) (N := 38) hx hb hts iX12 hown hw k_a0 rfl rfl rfl 32 (by decide) (hts _ tw_1157) (fun _ h9 => h9) dX12_fillsFits_43 rfl (fun v43 k_v43 f_a0_X12_32 => ?_)
          refine lv_iload_n hx hb dX12_fillsFits_46 rfl (lv_at hl 2 rfl) ?_
          refine lv_iload_n hx hb dX12_fillsFits_47 rfl (lv_at hl 3 rfl) ?_
          refine t_calli (va_runS (As := [.int p11_l2, .int p32_l3]) (rest := [.ref v43]) ⟨hx, hb, hml, hown, hts⟩ (t_X12_spot l dC dI tys κ B w_8 hw.2.2.2.2 p11_l2 (by omega) (by omega) p32_l3 (by omega) (by omega) H.size) (va_cwS 2 hts (gUS tw_1712 tw_1713 tw_13 tw_1714) rfl rfl rfl (by decide +kernel) ⟨(Nat.le_of_ble_eq_true rfl), (Nat.le_of_ble_eq_true rfl)⟩) ⟨cPre.blind, cPre.use hw.2.1 hw.1 hw.2.2.1 hE⟩ rfl rfl hl.1 rfl (lv_room (Nat.le_of_ble_eq_true rfl)) dX12_fillsFits_48 ⟨(Nat.le_of_ble_eq_true rfl), (Nat.le_of_ble_eq_true rfl)⟩) hw hA (fun _ _ h => h.2.2.1) (fun v48 w_9 H locs hp hw => ?_)
          obtain ⟨l_v48, h_v48, _, hm⟩ := hp
          have hM := hM.trans hm (by decide) (by decide)
          have f_a0_X12_2 := hm.1 _ _ _ _ f_a0_X12_2 (by decide)
          have f_a0_X12_20 := hm.1 _ _ _ _ f_a0_X12_20 (by decide)
          have f_a0_X12_21 := hm.1 _ _ _ _ f_a0_X12_21 (by decide)
          have f_f0_M_said_10 := hm.elt k_f0 (by decide) f_f0_M_said_10
          have f_a0_X12_32 := hm.1 _ _ _ _ f_a0_X12_32 (by decide)
          refine lv_aload_n hx hb dX12_fillsFits_51 rfl (lv_at hl 0 rfl) ?_
          refine t_getk (ci := 12) (C := RX12) (T := TX12) (N := 38) hx hb hts iX12 hown hw rfl 20 (by decide) (hts _ tw_1145) (fun _ h9 => h9) dX12_fillsFits_52 f_a0_X12_20 ?_
          refine lv_bipush (v := 11) hx hb dX12_fillsFits_55 (by decide) ?_
          refine t_iald hx hb hw k_f0 rfl rfl (by decide) (by decide) dX12_fillsFits_57 (fun v57 r_v57 s_v57 f_f0_M_said_11 => ?_)
          have l_v57 : (-1) ≤ v57.toInt := by rw [iv_63_11] at r_v57; exact r_v57
          have h_v57 : v57.toInt ≤ 5 := by rw [iv_63_11] at s_v57; exact s_v57
          refine t_iast hx hb hw k_v43 rfl rfl (by omega) (show v48.toInt < 427 by omega) (i32_lo _) (i32_hi _) dX12_fillsFits_58 (fun w_10 H locs hw u => ?_)
          have hM := hM.up3 u k_v43 (by decide)
          have f_a0_X12_2 := u.1 _ _ _ _ f_a0_X12_2
          have f_a0_X12_20 := u.1 _ _ _ _ f_a0_X12_20
          have f_a0_X12_21 := u.1 _ _ _ _ f_a0_X12_21
          have f_f0_M_said_10 := u.2.2.1 _ _ _ f_f0_M_said_10 (Or.inl (ne_k k_f0 k_v43 (by decide)))
          have f_a0_X12_32 := u.1 _ _ _ _ f_a0_X12_32
          have f_f0_M_said_11 := u.2.2.1 _ _ _ f_f0_M_said_11 (Or.inl (ne_k k_f0 k_v43 (by decide)))
          obtain ⟨v59, e_v59⟩ : ∃ y : Int32, y = p32_l3 + 1 := ⟨_, rfl⟩
          refine lv_iinc (v := v59) (lv' := [(3, .int v59), (0, .ref a0), (1, .int v1), (2, .int p11_l2)]) hx hb dX12_fillsFits_59 hl (k := 3) rfl e_v59.symm (by decide) rfl (fun ls hl => ?_)
          have e_v59 : v59.toInt = p32_l3.toInt + 1 := ad_i e_v59 rfl li_1 (by omega) (by omega)
          refine lv_goto (tgt := 32) hx hb dX12_fillsFits_62 (by decide) ?_
          exact ih_32 _ _ _ _ (by omega) ⟨w_10, v59, v39d, hw, hM, (by omega), (by omega), (by omega), (by omega), f_a0_X12_2, f_a0_X12_20, f_a0_X12_21, f_f0_M_said_10, (by omega), (lv_sub hl [1, 2, 3, 0] rfl), rfl⟩
      exact J32 _ _ _ _ ⟨w_5, 0, v27d, hw, hM, (by decide), (by decide), (by omega), (by omega), f_a0_X12_2, f_a0_X12_20, f_a0_X12_21, f_f0_M_said_10, (by have := li_0; omega), (lv_sub hl [1, 2, 3, 0] rfl), rfl⟩
  exact J11 _ _ _ _ ⟨w_1, 0, v1, f1, hw, hM, (by decide), (by decide), (by omega), (by omega), (by omega), (by omega), f_a0_X12_20, f_a0_X12_21, f_f0_M_said_10, (lv_sub hl [2, 1, 0] rfl), rfl⟩
set_option maxHeartbeats 4000000 in
set_option maxRecDepth 100000 in
theorem t_X12_fillsWanted (l : Launch) (dC : Nat → ClassId) (dI : Nat → Nat → Nat) (tys : List (ClassId × FieldType)) (κ : tK) (B : Nat) (ws : va_W) (hT : Ty κ tys B ws) (a0 : Nat) (k_a0 : κ a0 = some 12) (hRT : RT κ ws a0) (sz : Nat) : Met l yX12_fillsWanted (ws_u yX12_fillsWanted cX12_fillsWanted 3 none) ({ frames := 4, cells := 0, slots := 0, locals := 100 }) (va_Pc [.ref a0] (cPre (dC, dI) tys ws sz)) (va_Qv (fun (w : va_W) => Ty κ tys B w ∧ Sm [(12, 18)] [61, 62, 67] κ ws w) (fun w t => cPost (dC, dI) tys w (va_A ws sz) t) (va_A ws sz)) 0 0 (va_A ws sz) := by
  refine Met.ofW (cc := cX12_fillsWanted) (maxL := 3) (ret := none) (by decide) rfl ?_
  intro p e s m args below meth c s₁ B0 hml hv
  obtain ⟨rfl, hsz, hP, hK, hD0, hE⟩ := hv
  have hx := B0.exec
  have hb := B0.bytes
  have hr := B0.returns
  have hts0 := atoms_spec (ws := ws_u yX12_fillsWanted cX12_fillsWanted 3 none) B0.pre
  have hts : ∀ w ∈ gT, w.before _ s = true := fun w h => hts0 w (List.mem_cons_of_mem _ h)
  have hown : s.vm.findClass RX12 = some m.cls := findClass_of_methodNamed B0.named
  have hlocks := B0.notSynchronized
  subst hsz
  have hD := hD0.self (sz := s.heap.size)
  generalize hAe : va_A ws s.heap.size = A at hD ⊢
  have hA : ∀ q : Nat, s.heap.size ≤ q → A q := fun q h => by rw [← hAe]; exact Or.inr h
  have hw : tW (dC, dI) tys κ B A s ws s.heap [] := ⟨hK, hP, hD, va_S.rf, hT⟩
  have hM : Sm [(12, 18)] [61, 62, 67] κ ws ws := Sm.rf
  clear hP hK hD hD0 hts0
  have hl := lv_entry ([.ref a0]) (n := 3) (Nat.le_of_ble_eq_true rfl)
  rw [lg_entry_eq]
  generalize (lg_sl ([.ref a0]) ++ List.replicate (3 - (lg_sl ([.ref a0])).length) Slot.unset).toArray = ls at hl ⊢
  have hl : lv_has ls 3 [(0, .ref a0)] := hl
  refine t_start (fun QQ hQ => ?_)
  refine lv_iconst (v := 0) hx hb dX12_fillsWanted_0 (by decide) ?_
  refine lv_istore_n (lv' := [(1, .int 0), (0, .ref a0)]) hx hb dX12_fillsWanted_1 rfl hl (by decide) rfl (fun ls hl => ?_)
  have J2 : ∀ (n : Nat) (H : Heap) (locs : List Loc) (ls : Array Slot), (∃ (w2 : va_W) (p2_l1 : Int32), tW (dC, dI) tys κ B A s w2 H locs ∧ Sm [(12, 18)] [61, 62, 67] κ ws w2 ∧ 0 ≤ p2_l1.toInt ∧ p2_l1.toInt ≤ 6 ∧ lv_has ls 3 [(0, .ref a0), (1, .int p2_l1)] ∧ (6 - p2_l1.toInt).toNat = n) → W p l e (headSpec (ws_u yX12_fillsWanted cX12_fillsWanted 3 none) ({ frames := 4, cells := 0, slots := 0, locals := 100 })).room s m ([.ref a0] : List Value).toArray below meth c H locs 0 0 QQ (F0 m 2 ls []) := by
    refine loopT _ ?_
    intro n_2 H locs ls hI ih_2
    obtain ⟨w2, p2_l1, hw, hM, l_p2_l1, h_p2_l1, hl, hn_2⟩ := hI
    refine lv_iload_n hx hb dX12_fillsWanted_2 rfl (lv_at hl 1 rfl) ?_
    refine lv_aload_n hx hb dX12_fillsWanted_3 rfl (lv_at hl 0 rfl) ?_
    refine t_getr (k1 := 63) (ci := 12) (C := RX12) (T := TX12) (N := 38) hx hb hts iX12 hown hw k_a0 rfl rfl rfl 20 (by decide) (hts _ tw_1145) (fun _ h9 => h9) dX12_fillsWanted_4 rfl (fun v4 k_v4 f_a0_X12_20 => ?_)
    refine lv_iconst (v := 3) hx hb dX12_fillsWanted_7 (by decide) ?_
    refine t_iald hx hb hw k_v4 rfl rfl (by decide) (by decide) dX12_fillsWanted_8 (fun v8 r_v8 s_v8 f_v4_M_said_3 => ?_)
    have l_v8 : 0 ≤ v8.toInt := by rw [iv_63_3] at r_v8; exact r_v8
    have h_v8 : v8.toInt ≤ 6 := by rw [iv_63_3] at s_v8; exact s_v8
    refine lv_icmp_ge (tgt := 65) hx hb dX12_fillsWanted_9 (by decide) (fun c_9 => ?_) (fun c_9 => ?_)
    · simp only [fa_lt, fa_le, fa_eq] at c_9
      rw [hQ]
      refine W.widen (k := 0) (n := 0) (Nat.le_refl _) (Nat.le_refl _) ?_
      exact W.vret hx hb hr (fun t ht hW => ⟨⟨w2, rfl, ⟨hw.2.2.2.2, hM⟩, by rw [ht]; exact hw.2.1, va_K.moved hW.alike hw.1, hw.2.2.1⟩, hw.2.2.2.1.F ht⟩) hw.2.2.2.1.2.2 dX12_fillsWanted_65
    · simp only [fa_lt, fa_le, fa_eq] at c_9
      refine lv_iconst (v := 0) hx hb dX12_fillsWanted_12 (by decide) ?_
      refine lv_istore_n (lv' := [(2, .int 0), (0, .ref a0), (1, .int p2_l1)]) hx hb dX12_fillsWanted_13 rfl hl (by decide) rfl (fun ls hl => ?_)
      have J14 : ∀ (n : Nat) (H : Heap) (locs : List Loc) (ls : Array Slot), (∃ (w14 : va_W) (p14_l2 : Int32), tW (dC, dI) tys κ B A s w14 H locs ∧ Sm [(12, 18)] [61, 62, 67] κ ws w14 ∧ 0 ≤ p14_l2.toInt ∧ p14_l2.toInt ≤ 6 ∧ fld w14 a0 12 20 (.ref v4) ∧ elt w14 v4 (3 : Int32).toInt.toNat v8 ∧ lv_has ls 3 [(0, .ref a0), (1, .int p2_l1), (2, .int p14_l2)] ∧ (6 - p14_l2.toInt).toNat = n) → W p l e (headSpec (ws_u yX12_fillsWanted cX12_fillsWanted 3 none) ({ frames := 4, cells := 0, slots := 0, locals := 100 })).room s m ([.ref a0] : List Value).toArray below meth c H locs 0 0 QQ (F0 m 14 ls []) := by
        refine loopT _ ?_
        intro n_14 H locs ls hI ih_14
        obtain ⟨w14, p14_l2, hw, hM, l_p14_l2, h_p14_l2, f_a0_X12_20, f_v4_M_said_3, hl, hn_14⟩ := hI
        refine lv_iload_n hx hb dX12_fillsWanted_14 rfl (lv_at hl 2 rfl) ?_
        refine lv_aload_n hx hb dX12_fillsWanted_15 rfl (lv_at hl 0 rfl) ?_
        refine t_getk (ci := 12) (C := RX12) (T := TX12) (N := 38) hx hb hts iX12 hown hw rfl 20 (by decide) (hts _ tw_1145) (fun _ h9 => h9) dX12_fillsWanted_16 f_a0_X12_20 ?_
        refine lv_iconst (v := 3) hx hb dX12_fillsWanted_19 (by decide) ?_
        refine t_ialdk hx hb hw k_v4 rfl rfl (by decide) (by decide) f_v4_M_said_3 dX12_fillsWanted_20 ?_
        refine lv_icmp_ge (tgt := 59) hx hb dX12_fillsWanted_21 (by decide) (fun c_21 => ?_) (fun c_21 => ?_)
        · simp only [fa_lt, fa_le, fa_eq] at c_21
          obtain ⟨v59, e_v59⟩ : ∃ y : Int32, y = p2_l1 + 1 := ⟨_, rfl⟩
          refine lv_iinc (v := v59) (lv' := [(1, .int v59), (0, .ref a0), (2, .int p14_l2)]) hx hb dX12_fillsWanted_59 hl (k := 1) rfl e_v59.symm (by decide) rfl (fun ls hl => ?_)
          have e_v59 : v59.toInt = p2_l1.toInt + 1 := ad_i e_v59 rfl li_1 (by omega) (by omega)
          refine lv_goto (tgt := 2) hx hb dX12_fillsWanted_62 (by decide) ?_
          exact ih_2 _ _ _ _ (by omega) ⟨w14, v59, hw, hM, (by omega), (by omega), (lv_sub hl [1, 0] rfl), rfl⟩
        · simp only [fa_lt, fa_le, fa_eq] at c_21
          refine lv_aload_n hx hb dX12_fillsWanted_24 rfl (lv_at hl 0 rfl) ?_
          refine t_getr (k1 := 67) (ci := 12) (C := RX12) (T := TX12) (N := 38) hx hb hts iX12 hown hw k_a0 rfl rfl rfl 28 (by decide) (hts _ tw_1153) (fun _ h9 => h9) dX12_fillsWanted_25 rfl (fun v25 k_v25 f_a0_X12_28 => ?_)
          refine lv_bipush (v := 6) hx hb dX12_fillsWanted_28 (by decide) ?_
          refine lv_iload_n hx hb dX12_fillsWanted_30 rfl (lv_at hl 1 rfl) ?_
          refine lv_imul hx hb dX12_fillsWanted_31 ?_
          refine lv_topi (fun v31 e_v31 => ?_)
          have e_v31 : v31.toInt = 6 * p2_l1.toInt := ml_i e_v31 li_6 rfl (by omega) (by omega)
          refine lv_iload_n hx hb dX12_fillsWanted_32 rfl (lv_at hl 2 rfl) ?_
          refine lv_iadd hx hb dX12_fillsWanted_33 ?_
          refine lv_topi (fun v33 e_v33 => ?_)
          have e_v33 : v33.toInt = v31.toInt + p14_l2.toInt := ad_i e_v33 rfl rfl (by omega) (by omega)
          refine lv_aload_n hx hb dX12_fillsWanted_34 rfl (lv_at hl 0 rfl) ?_
          refine lv_iload_n hx hb dX12_fillsWanted_35 rfl (lv_at hl 2 rfl) ?_
          refine t_calli (va_runV (As := [.int p14_l2]) (rest := [.int v33, .ref v25]) ⟨hx, hb, hml, hown, hts⟩ (t_X12_isSound l dC dI tys κ B w14 hw.2.2.2.2 a0 k_a0 p14_l2 H.size) (cwV 1 hts (gUV tw_1517 tw_1519 ts_6_3 tw_13 tw_1520) rfl rfl rfl (by decide +kernel) ⟨(Nat.le_of_ble_eq_true rfl), (Nat.le_of_ble_eq_true rfl)⟩) ⟨cPre.blind, t_recv hw (ci := 12) k_a0 rfl rfl, cPre.use hw.2.1 hw.1 hw.2.2.1 hE⟩ rfl rfl hl.1 rfl (lv_room (Nat.le_of_ble_eq_true rfl)) dX12_fillsWanted_36 ⟨(Nat.le_of_ble_eq_true rfl), (Nat.le_of_ble_eq_true rfl)⟩) hw hA (fun _ _ h => h.2.2.1) (fun v36 w_1 H locs hp hw => ?_)
          obtain ⟨l_v36, h_v36, _, hm, x_v36_0⟩ := hp
          have hM := hM.trans hm (by decide) (by decide)
          have f_a0_X12_20 := hm.1 _ _ _ _ f_a0_X12_20 (by decide)
          have f_v4_M_said_3 := hm.elt k_v4 (by decide) f_v4_M_said_3
          have f_a0_X12_28 := hm.1 _ _ _ _ f_a0_X12_28 (by decide)
          have J52 : ∀ (H : Heap) (locs : List Loc) (ls : Array Slot) (w52 : va_W) (p52_s0 : Int64), tW (dC, dI) tys κ B A s w52 H locs → Sm [(12, 18)] [61, 62, 67] κ ws w52 → fld w52 a0 12 20 (.ref v4) → fld w52 a0 12 28 (.ref v25) → elt w52 v4 (3 : Int32).toInt.toNat v8 → lv_has ls 3 [(0, .ref a0), (1, .int p2_l1), (2, .int p14_l2)] → W p l e (headSpec (ws_u yX12_fillsWanted cX12_fillsWanted 3 none) ({ frames := 4, cells := 0, slots := 0, locals := 100 })).room s m ([.ref a0] : List Value).toArray below meth c H locs 0 0 QQ (F0 m 52 ls [.long p52_s0, .int v33, .ref v25]) := by
            intro H locs ls w52 p52_s0 hw hM f_a0_X12_20 f_a0_X12_28 f_v4_M_said_3 hl
            refine t_last hx hb hw k_v25 rfl rfl (by omega) (show v33.toInt < 36 by omega) dX12_fillsWanted_52 (fun w_2 H locs y hw u => ?_)
            have hM := hM.up2 u k_v25 (by decide)
            have f_a0_X12_20 := u.1 _ _ _ _ f_a0_X12_20
            have f_a0_X12_28 := u.1 _ _ _ _ f_a0_X12_28
            have f_v4_M_said_3 := u.elt f_v4_M_said_3 (ne_k k_v4 k_v25 (by decide))
            obtain ⟨v53, e_v53⟩ : ∃ y : Int32, y = p14_l2 + 1 := ⟨_, rfl⟩
            refine lv_iinc (v := v53) (lv' := [(2, .int v53), (0, .ref a0), (1, .int p2_l1)]) hx hb dX12_fillsWanted_53 hl (k := 2) rfl e_v53.symm (by decide) rfl (fun ls hl => ?_)
            have e_v53 : v53.toInt = p14_l2.toInt + 1 := ad_i e_v53 rfl li_1 (by omega) (by omega)
            refine lv_goto (tgt := 14) hx hb dX12_fillsWanted_56 (by decide) ?_
            exact ih_14 _ _ _ _ (by omega) ⟨w_2, v53, hw, hM, (by omega), (by omega), f_a0_X12_20, f_v4_M_said_3, (lv_sub hl [1, 2, 0] rfl), rfl⟩
          refine lv_if_eq (tgt := 51) hx hb dX12_fillsWanted_39 (by decide) (fun c_39 => ?_) (fun c_39 => ?_)
          · simp only [fa_lt, fa_le, fa_eq, li_0] at c_39
            refine lv_lconst (v := 0) hx hb dX12_fillsWanted_51 (by decide) ?_
            obtain ⟨v51, e_v51⟩ : ∃ y : Int64, y = 0 := ⟨_, rfl⟩
            refine W.eq (g2 := F0 m 52 ls [.long v51, .int v33, .ref v25]) (by rw [e_v51]) ?_
            have t_v51 : v51.toInt = 0 := by rw [e_v51]; decide
            exact J52 _ _ _ w_1 v51 hw hM f_a0_X12_20 f_a0_X12_28 f_v4_M_said_3 (lv_sub hl [0, 1, 2] rfl)
          · simp only [fa_lt, fa_le, fa_eq, li_0] at c_39
            refine lv_aload_n hx hb dX12_fillsWanted_42 rfl (lv_at hl 0 rfl) ?_
            refine lv_iload_n hx hb dX12_fillsWanted_43 rfl (lv_at hl 1 rfl) ?_
            refine lv_iload_n hx hb dX12_fillsWanted_44 rfl (lv_at hl 2 rfl) ?_
            refine t_calll (va_runV (As := [.int p2_l1, .int p14_l2]) (rest := [.int v33, .ref v25]) ⟨hx, hb, hml, hown, hts⟩ (t_X12_wants l dC dI tys κ B w_1 hw.2.2.2.2 a0 k_a0 p2_l1 (by omega) (by omega) p14_l2 (by omega) (by omega) (hRT.sm hM (by decide) (by decide)) H.size) (cwV 2 hts (gUV tw_1521 tw_1523 ts_6_4 tw_13 tw_1524) rfl rfl rfl (by decide +kernel) ⟨(Nat.le_of_ble_eq_true rfl), (Nat.le_of_ble_eq_true rfl)⟩) ⟨cPre.blind, t_recv hw (ci := 12) k_a0 rfl rfl, cPre.use hw.2.1 hw.1 hw.2.2.1 hE⟩ rfl rfl hl.1 rfl (lv_room (Nat.le_of_ble_eq_true rfl)) dX12_fillsWanted_45 ⟨(Nat.le_of_ble_eq_true rfl), (Nat.le_of_ble_eq_true rfl)⟩) hw hA (fun _ _ h => h.1) (fun v45 w_3 H locs hp hw => ?_)
            obtain ⟨_, hm⟩ := hp
            have hM := hM.trans hm (by decide) (by decide)
            have f_a0_X12_20 := hm.1 _ _ _ _ f_a0_X12_20 (by decide)
            have f_v4_M_said_3 := hm.elt k_v4 (by decide) f_v4_M_said_3
            have f_a0_X12_28 := hm.1 _ _ _ _ f_a0_X12_28 (by decide)
            refine lv_goto (tgt := 52) hx hb dX12_fillsWanted_48 (by decide) ?_
            exact J52 _ _ _ w_3 v45 hw hM f_a0_X12_20 f_a0_X12_28 f_v4_M_said_3 (lv_sub hl [0, 1, 2] rfl)
      exact J14 _ _ _ _ ⟨w2, 0, hw, hM, (by decide), (by decide), f_a0_X12_20, f_v4_M_said_3, (lv_sub hl [1, 2, 0] rfl), rfl⟩
  exact J2 _ _ _ _ ⟨ws, 0, hw, hM, (by decide), (by decide), (lv_sub hl [1, 0] rfl), rfl⟩
set_option maxHeartbeats 4000000 in
set_option maxRecDepth 100000 in
theorem t_X12_isWonBy (l : Launch) (dC : Nat → ClassId) (dI : Nat → Nat → Nat) (tys : List (ClassId × FieldType)) (κ : tK) (B : Nat) (ws : va_W) (hT : Ty κ tys B ws) (a0 : Nat) (k_a0 : κ a0 = some 12) (a1 : Int32) (l_a1 : 0 ≤ a1.toInt) (h_a1 : a1.toInt ≤ 5) (a2 : Int32) (l_a2 : 0 ≤ a2.toInt) (h_a2 : a2.toInt ≤ 64) (hRT : RT κ ws a0) (sz : Nat) : Met l yX12_isWonBy (ws_u yX12_isWonBy cX12_isWonBy 4 (some .boolean)) ({ frames := 6, cells := 0, slots := 0, locals := 148 }) (va_Pc [.ref a0, .int a1, .int a2] (cPre (dC, dI) tys ws sz)) (va_Qi (fun (r : Int32) (w : va_W) => 0 ≤ r.toInt ∧ r.toInt ≤ 1 ∧ Ty κ tys B w ∧ Sm [(12, 18)] [61, 62, 64] κ ws w) (fun w t => cPost (dC, dI) tys w (va_A ws sz) t) (va_A ws sz)) 0 0 (va_A ws sz) := by
  refine Met.ofW (cc := cX12_isWonBy) (maxL := 4) (ret := (some .boolean)) (by decide) rfl ?_
  intro p e s m args below meth c s₁ B0 hml hv
  obtain ⟨rfl, hsz, hP, hK, hD0, hE⟩ := hv
  have hx := B0.exec
  have hb := B0.bytes
  have hr := B0.returns
  have hts0 := atoms_spec (ws := ws_u yX12_isWonBy cX12_isWonBy 4 (some .boolean)) B0.pre
  have hts : ∀ w ∈ gT, w.before _ s = true := fun w h => hts0 w (List.mem_cons_of_mem _ h)
  have hown : s.vm.findClass RX12 = some m.cls := findClass_of_methodNamed B0.named
  have hlocks := B0.notSynchronized
  subst hsz
  have hD := hD0.self (sz := s.heap.size)
  generalize hAe : va_A ws s.heap.size = A at hD ⊢
  have hA : ∀ q : Nat, s.heap.size ≤ q → A q := fun q h => by rw [← hAe]; exact Or.inr h
  have hw : tW (dC, dI) tys κ B A s ws s.heap [] := ⟨hK, hP, hD, va_S.rf, hT⟩
  have hM : Sm [(12, 18)] [61, 62, 64] κ ws ws := Sm.rf
  clear hP hK hD hD0 hts0
  have hl := lv_entry ([.ref a0, .int a1, .int a2]) (n := 4) (Nat.le_of_ble_eq_true rfl)
  rw [lg_entry_eq]
  generalize (lg_sl ([.ref a0, .int a1, .int a2]) ++ List.replicate (4 - (lg_sl ([.ref a0, .int a1, .int a2])).length) Slot.unset).toArray = ls at hl ⊢
  have hl : lv_has ls 4 [(0, .ref a0), (1, .int a1), (2, .int a2)] := hl
  refine t_start (fun QQ hQ => ?_)
  refine lv_aload_n hx hb dX12_isWonBy_0 rfl (lv_at hl 0 rfl) ?_
  refine t_callv (va_runV (As := []) (rest := []) ⟨hx, hb, hml, hown, hts⟩ (t_X12_fillsVotes l dC dI tys κ B ws hw.2.2.2.2 a0 k_a0 (hRT.sm hM (by decide) (by decide)) s.heap.size) (cwV 0 hts (gUV tw_1509 tw_1511 ts_6_1 tw_13 tw_1512) rfl rfl rfl (by decide +kernel) ⟨(Nat.le_of_ble_eq_true rfl), (Nat.le_of_ble_eq_true rfl)⟩) ⟨cPre.blind, t_recv hw (ci := 12) k_a0 rfl rfl, cPre.use hw.2.1 hw.1 hw.2.2.1 hE⟩ rfl rfl hl.1 rfl (lv_room (Nat.le_of_ble_eq_true rfl)) dX12_isWonBy_1 ⟨(Nat.le_of_ble_eq_true rfl), (Nat.le_of_ble_eq_true rfl)⟩) hw hA (fun _ h => h.1) (fun w_1 H locs hp hw => ?_)
  obtain ⟨_, hm⟩ := hp
  have hM := hM.trans hm (by decide) (by decide)
  refine lv_iconst (v := 0) hx hb dX12_isWonBy_4 (by decide) ?_
  refine lv_istore_n (lv' := [(3, .int 0), (0, .ref a0), (1, .int a1), (2, .int a2)]) hx hb dX12_isWonBy_5 rfl hl (by decide) rfl (fun ls hl => ?_)
  have J6 : ∀ (n : Nat) (H : Heap) (locs : List Loc) (ls : Array Slot), (∃ (w6 : va_W) (p6_l3 : Int32), tW (dC, dI) tys κ B A s w6 H locs ∧ Sm [(12, 18)] [61, 62, 64] κ ws w6 ∧ 0 ≤ p6_l3.toInt ∧ p6_l3.toInt ≤ 6 ∧ lv_has ls 4 [(0, .ref a0), (1, .int a1), (2, .int a2), (3, .int p6_l3)] ∧ (6 - p6_l3.toInt).toNat = n) → W p l e (headSpec (ws_u yX12_isWonBy cX12_isWonBy 4 (some .boolean)) ({ frames := 6, cells := 0, slots := 0, locals := 148 })).room s m ([.ref a0, .int a1, .int a2] : List Value).toArray below meth c H locs 0 0 QQ (F0 m 6 ls []) := by
    refine loopT _ ?_
    intro n_6 H locs ls hI ih_6
    obtain ⟨w6, p6_l3, hw, hM, l_p6_l3, h_p6_l3, hl, hn_6⟩ := hI
    refine lv_iload_n hx hb dX12_isWonBy_6 rfl (lv_at hl 3 rfl) ?_
    refine lv_aload_n hx hb dX12_isWonBy_7 rfl (lv_at hl 0 rfl) ?_
    refine t_getr (k1 := 63) (ci := 12) (C := RX12) (T := TX12) (N := 38) hx hb hts iX12 hown hw k_a0 rfl rfl rfl 20 (by decide) (hts _ tw_1145) (fun _ h9 => h9) dX12_isWonBy_8 rfl (fun v8 k_v8 f_a0_X12_20 => ?_)
    refine lv_iconst (v := 3) hx hb dX12_isWonBy_11 (by decide) ?_
    refine t_iald hx hb hw k_v8 rfl rfl (by decide) (by decide) dX12_isWonBy_12 (fun v12 r_v12 s_v12 f_v8_M_said_3 => ?_)
    have l_v12 : 0 ≤ v12.toInt := by rw [iv_63_3] at r_v12; exact r_v12
    have h_v12 : v12.toInt ≤ 6 := by rw [iv_63_3] at s_v12; exact s_v12
    refine lv_icmp_ge (tgt := 37) hx hb dX12_isWonBy_13 (by decide) (fun c_13 => ?_) (fun c_13 => ?_)
    · simp only [fa_lt, fa_le, fa_eq] at c_13
      refine lv_aload_n hx hb dX12_isWonBy_37 rfl (lv_at hl 0 rfl) ?_
      refine t_calli (va_runV (As := []) (rest := []) ⟨hx, hb, hml, hown, hts⟩ (t_X12_mostVoted l dC dI tys κ B w6 hw.2.2.2.2 a0 k_a0 H.size) (cwV 0 hts (gUV tw_1548 tw_1550 ts_6_10 tw_13 tw_1551) rfl rfl rfl (by decide +kernel) ⟨(Nat.le_of_ble_eq_true rfl), (Nat.le_of_ble_eq_true rfl)⟩) ⟨cPre.blind, t_recv hw (ci := 12) k_a0 rfl rfl, cPre.use hw.2.1 hw.1 hw.2.2.1 hE⟩ rfl rfl hl.1 rfl (lv_room (Nat.le_of_ble_eq_true rfl)) dX12_isWonBy_38 ⟨(Nat.le_of_ble_eq_true rfl), (Nat.le_of_ble_eq_true rfl)⟩) hw hA (fun _ _ h => h.2.2.1) (fun v38 w_2 H locs hp hw => ?_)
      obtain ⟨l_v38, h_v38, _, hm⟩ := hp
      have hM := hM.trans hm (by decide) (by decide)
      have f_a0_X12_20 := hm.1 _ _ _ _ f_a0_X12_20 (by decide)
      have f_v8_M_said_3 := hm.elt k_v8 (by decide) f_v8_M_said_3
      refine lv_iload_n hx hb dX12_isWonBy_41 rfl (lv_at hl 1 rfl) ?_
      refine lv_icmp_ne (tgt := 49) hx hb dX12_isWonBy_42 (by decide) (fun c_42 => ?_) (fun c_42 => ?_)
      · simp only [fa_lt, fa_le, fa_eq] at c_42
        refine lv_iconst (v := 0) hx hb dX12_isWonBy_49 (by decide) ?_
        rw [hQ]
        refine W.widen (k := 0) (n := 0) (Nat.le_refl _) (Nat.le_refl _) ?_
        exact W.zret (v := 0) hx hb hr rfl (fun t ht hW => ⟨⟨0, w_2, rfl, ⟨(by decide), (by decide), hw.2.2.2.2, hM⟩, by rw [ht]; exact hw.2.1, va_K.moved hW.alike hw.1, hw.2.2.1⟩, hw.2.2.2.1.F ht⟩) hw.2.2.2.1.2.2 dX12_isWonBy_50
      · simp only [fa_lt, fa_le, fa_eq] at c_42
        refine lv_iconst (v := 1) hx hb dX12_isWonBy_45 (by decide) ?_
        refine lv_goto (tgt := 50) hx hb dX12_isWonBy_46 (by decide) ?_
        rw [hQ]
        refine W.widen (k := 0) (n := 0) (Nat.le_refl _) (Nat.le_refl _) ?_
        exact W.zret (v := 1) hx hb hr rfl (fun t ht hW => ⟨⟨1, w_2, rfl, ⟨(by decide), (by decide), hw.2.2.2.2, hM⟩, by rw [ht]; exact hw.2.1, va_K.moved hW.alike hw.1, hw.2.2.1⟩, hw.2.2.2.1.F ht⟩) hw.2.2.2.1.2.2 dX12_isWonBy_50
    · simp only [fa_lt, fa_le, fa_eq] at c_13
      refine lv_iload_n hx hb dX12_isWonBy_16 rfl (lv_at hl 2 rfl) ?_
      refine lv_iload_n hx hb dX12_isWonBy_17 rfl (lv_at hl 3 rfl) ?_
      refine t_calli (va_runS (As := [.int a2, .int p6_l3]) (rest := []) ⟨hx, hb, hml, hown, hts⟩ (t_X12_isOf l dC dI tys κ B w6 hw.2.2.2.2 a2 p6_l3 (by omega) (by omega) H.size) (va_cwS 2 hts (gUS tw_1637 tw_1638 tw_13 tw_1639) rfl rfl rfl (by decide +kernel) ⟨(Nat.le_of_ble_eq_true rfl), (Nat.le_of_ble_eq_true rfl)⟩) ⟨cPre.blind, cPre.use hw.2.1 hw.1 hw.2.2.1 hE⟩ rfl rfl hl.1 rfl (lv_room (Nat.le_of_ble_eq_true rfl)) dX12_isWonBy_18 ⟨(Nat.le_of_ble_eq_true rfl), (Nat.le_of_ble_eq_true rfl)⟩) hw hA (fun _ _ h => h.2.2.1) (fun v18 w_3 H locs hp hw => ?_)
      obtain ⟨l_v18, h_v18, _, hm, x_v18_0⟩ := hp
      have hM := hM.trans hm (by decide) (by decide)
      have f_a0_X12_20 := hm.1 _ _ _ _ f_a0_X12_20 (by decide)
      have f_v8_M_said_3 := hm.elt k_v8 (by decide) f_v8_M_said_3
      have J31 : ∀ (H : Heap) (locs : List Loc) (ls : Array Slot) (w31 : va_W), tW (dC, dI) tys κ B A s w31 H locs → Sm [(12, 18)] [61, 62, 64] κ ws w31 → fld w31 a0 12 20 (.ref v8) → elt w31 v8 (3 : Int32).toInt.toNat v12 → lv_has ls 4 [(0, .ref a0), (1, .int a1), (2, .int a2), (3, .int p6_l3)] → W p l e (headSpec (ws_u yX12_isWonBy cX12_isWonBy 4 (some .boolean)) ({ frames := 6, cells := 0, slots := 0, locals := 148 })).room s m ([.ref a0, .int a1, .int a2] : List Value).toArray below meth c H locs 0 0 QQ (F0 m 31 ls []) := by
        intro H locs ls w31 hw hM f_a0_X12_20 f_v8_M_said_3 hl
        obtain ⟨v31, e_v31⟩ : ∃ y : Int32, y = p6_l3 + 1 := ⟨_, rfl⟩
        refine lv_iinc (v := v31) (lv' := [(3, .int v31), (0, .ref a0), (1, .int a1), (2, .int a2)]) hx hb dX12_isWonBy_31 hl (k := 3) rfl e_v31.symm (by decide) rfl (fun ls hl => ?_)
        have e_v31 : v31.toInt = p6_l3.toInt + 1 := ad_i e_v31 rfl li_1 (by omega) (by omega)
        refine lv_goto (tgt := 6) hx hb dX12_isWonBy_34 (by decide) ?_
        exact ih_6 _ _ _ _ (by omega) ⟨w31, v31, hw, hM, (by omega), (by omega), (lv_sub hl [1, 2, 3, 0] rfl), rfl⟩
      refine lv_if_eq (tgt := 31) hx hb dX12_isWonBy_21 (by decide) (fun c_21 => ?_) (fun c_21 => ?_)
      · simp only [fa_lt, fa_le, fa_eq, li_0] at c_21
        exact J31 _ _ _ w_3 hw hM f_a0_X12_20 f_v8_M_said_3 (lv_sub hl [0, 1, 2, 3] rfl)
      · simp only [fa_lt, fa_le, fa_eq, li_0] at c_21
        refine lv_aload_n hx hb dX12_isWonBy_24 rfl (lv_at hl 0 rfl) ?_
        refine t_getr (k1 := 64) (ci := 12) (C := RX12) (T := TX12) (N := 38) hx hb hts iX12 hown hw k_a0 rfl rfl rfl 23 (by decide) (hts _ tw_1148) (fun _ h9 => h9) dX12_isWonBy_25 rfl (fun v25 k_v25 f_a0_X12_23 => ?_)
        refine lv_iload_n hx hb dX12_isWonBy_28 rfl (lv_at hl 3 rfl) ?_
        refine lv_iload_n hx hb dX12_isWonBy_29 rfl (lv_at hl 1 rfl) ?_
        refine t_iast hx hb hw k_v25 rfl rfl (by omega) (show p6_l3.toInt < 6 by omega) (i32_lo _) (i32_hi _) dX12_isWonBy_30 (fun w_4 H locs hw u => ?_)
        have hM := hM.up3 u k_v25 (by decide)
        have f_a0_X12_20 := u.1 _ _ _ _ f_a0_X12_20
        have f_v8_M_said_3 := u.2.2.1 _ _ _ f_v8_M_said_3 (Or.inl (ne_k k_v8 k_v25 (by decide)))
        have f_a0_X12_23 := u.1 _ _ _ _ f_a0_X12_23
        exact J31 _ _ _ w_4 hw hM f_a0_X12_20 f_v8_M_said_3 (lv_sub hl [0, 1, 2, 3] rfl)
  exact J6 _ _ _ _ ⟨w_1, 0, hw, hM, (by decide), (by decide), (lv_sub hl [1, 2, 3, 0] rfl), rfl⟩
