theorem ts_7_12 : Cond.selects "BoyBishopModel" ⟨"BoyBishopModel", "hoursOf", "(I)I"⟩ ⟨"BoyBishopModel", "hoursOf", "(I)I"⟩ ∈ gT := gT_in (List.mem_append_left _ (List.mem_map.mpr ⟨(⟨"BoyBishopModel", "hoursOf", "(I)I"⟩, 38), (List.mem_append_right _ (List.mem_append_right _ (List.mem_append_right _ (List.mem_append_right _ (List.mem_append_right _ (List.mem_append_right _ (List.mem_append_right _ (List.mem_append_left _ (List.mem_of_getElem? (i := 12) rfl))))))))), rfl⟩)) rfl
theorem ts_7_14 : Cond.selects "BoyBishopModel" ⟨"BoyBishopModel", "laidIn", "(I)I"⟩ ⟨"BoyBishopModel", "laidIn", "(I)I"⟩ ∈ gT := gT_in (List.mem_append_left _ (List.mem_map.mpr ⟨(⟨"BoyBishopModel", "laidIn", "(I)I"⟩, 38), (List.mem_append_right _ (List.mem_append_right _ (List.mem_append_right _ (List.mem_append_right _ (List.mem_append_right _ (List.mem_append_right _ (List.mem_append_right _ (List.mem_append_left _ (List.mem_of_getElem? (i := 14) rfl))))))))), rfl⟩)) rfl
theorem tw_1583 : (Jvm.Cond.constantLong "BoyBishopModel" (388 : Nat) (20 : Int64)) ∈ gT := gT_in (List.mem_append_right _ (List.mem_append_right _ (List.mem_append_right _ (List.mem_append_right _ (List.mem_append_right _ (List.mem_append_right _ (List.mem_append_right _ (List.mem_append_left _ (List.mem_of_getElem? (i := 143) rfl))))))))) rfl
theorem tw_1597 : (Jvm.Cond.constantLong "BoyBishopModel" (392 : Nat) (2 : Int64)) ∈ gT := gT_in (List.mem_append_right _ (List.mem_append_right _ (List.mem_append_right _ (List.mem_append_right _ (List.mem_append_right _ (List.mem_append_right _ (List.mem_append_right _ (List.mem_append_left _ (List.mem_of_getElem? (i := 157) rfl))))))))) rfl
theorem tw_1676 : (Jvm.Cond.methodLink "BoyBishopModel" (441 : Nat) ({ cls := "BoyBishopModel", name := "hoursOf", desc := "(I)I" } : Jvm.MethodName)) ∈ gT := gT_in (List.mem_append_right _ (List.mem_append_right _ (List.mem_append_right _ (List.mem_append_right _ (List.mem_append_right _ (List.mem_append_right _ (List.mem_append_right _ (List.mem_append_left _ (List.mem_of_getElem? (i := 236) rfl))))))))) rfl
theorem tw_1678 : (Jvm.Cond.instanceMethod ({ cls := "BoyBishopModel", name := "hoursOf", desc := "(I)I" } : Jvm.MethodName)) ∈ gT := gT_in (List.mem_append_right _ (List.mem_append_right _ (List.mem_append_right _ (List.mem_append_right _ (List.mem_append_right _ (List.mem_append_right _ (List.mem_append_right _ (List.mem_append_left _ (List.mem_of_getElem? (i := 238) rfl))))))))) rfl
theorem tw_1679 : (Jvm.Cond.code ({ cls := "BoyBishopModel", name := "hoursOf", desc := "(I)I" } : Jvm.MethodName) prog_14_method_106_code (5 : Nat) (Option.some Jvm.ClassFile.FieldType.int)) ∈ gT := gT_in (List.mem_append_right _ (List.mem_append_right _ (List.mem_append_right _ (List.mem_append_right _ (List.mem_append_right _ (List.mem_append_right _ (List.mem_append_right _ (List.mem_append_left _ (List.mem_of_getElem? (i := 239) rfl))))))))) rfl
theorem tw_1684 : (Jvm.Cond.methodLink "BoyBishopModel" (444 : Nat) ({ cls := "BoyBishopModel", name := "laidIn", desc := "(I)I" } : Jvm.MethodName)) ∈ gT := gT_in (List.mem_append_right _ (List.mem_append_right _ (List.mem_append_right _ (List.mem_append_right _ (List.mem_append_right _ (List.mem_append_right _ (List.mem_append_right _ (List.mem_append_right _ (List.mem_of_getElem? (i := 4) rfl))))))))) rfl
theorem tw_1686 : (Jvm.Cond.instanceMethod ({ cls := "BoyBishopModel", name := "laidIn", desc := "(I)I" } : Jvm.MethodName)) ∈ gT := gT_in (List.mem_append_right _ (List.mem_append_right _ (List.mem_append_right _ (List.mem_append_right _ (List.mem_append_right _ (List.mem_append_right _ (List.mem_append_right _ (List.mem_append_right _ (List.mem_of_getElem? (i := 6) rfl))))))))) rfl
theorem tw_1687 : (Jvm.Cond.code ({ cls := "BoyBishopModel", name := "laidIn", desc := "(I)I" } : Jvm.MethodName) prog_14_method_107_code (4 : Nat) (Option.some Jvm.ClassFile.FieldType.int)) ∈ gT := gT_in (List.mem_append_right _ (List.mem_append_right _ (List.mem_append_right _ (List.mem_append_right _ (List.mem_append_right _ (List.mem_append_right _ (List.mem_append_right _ (List.mem_append_right _ (List.mem_of_getElem? (i := 7) rfl))))))))) rfl
theorem dX12_laidIn_0 : decode cX12_laidIn 0 = .ok (.iconst 0, 1) := by decide +kernel
theorem dX12_laidIn_1 : decode cX12_laidIn 1 = .ok (.istore_n 2, 1) := by decide +kernel
theorem dX12_laidIn_2 : decode cX12_laidIn 2 = .ok (.iconst 0, 1) := by decide +kernel
theorem dX12_laidIn_3 : decode cX12_laidIn 3 = .ok (.istore_n 3, 1) := by decide +kernel
theorem dX12_laidIn_4 : decode cX12_laidIn 4 = .ok (.iload_n 3, 1) := by decide +kernel
theorem dX12_laidIn_5 : decode cX12_laidIn 5 = .ok (.aload_n 0, 1) := by decide +kernel
theorem dX12_laidIn_6 : decode cX12_laidIn 6 = .ok (.getfield 39, 3) := by decide +kernel
theorem dX12_laidIn_9 : decode cX12_laidIn 9 = .ok (.iconst 5, 1) := by decide +kernel
theorem dX12_laidIn_10 : decode cX12_laidIn 10 = .ok (.iaload, 1) := by decide +kernel
theorem dX12_laidIn_11 : decode cX12_laidIn 11 = .ok (.if_icmp .ge 33, 3) := by decide +kernel
theorem dX12_laidIn_14 : decode cX12_laidIn 14 = .ok (.iload_n 2, 1) := by decide +kernel
theorem dX12_laidIn_15 : decode cX12_laidIn 15 = .ok (.iload_n 1, 1) := by decide +kernel
theorem dX12_laidIn_16 : decode cX12_laidIn 16 = .ok (.iload_n 3, 1) := by decide +kernel
theorem dX12_laidIn_17 : decode cX12_laidIn 17 = .ok (.invokestatic 406, 3) := by decide +kernel
theorem dX12_laidIn_20 : decode cX12_laidIn 20 = .ok (.ifCond .eq 15, 3) := by decide +kernel
theorem dX12_laidIn_23 : decode cX12_laidIn 23 = .ok (.aload_n 0, 1) := by decide +kernel
theorem dX12_laidIn_24 : decode cX12_laidIn 24 = .ok (.getfield 39, 3) := by decide +kernel
theorem dX12_laidIn_27 : decode cX12_laidIn 27 = .ok (.bipush 34, 2) := by decide +kernel
theorem dX12_laidIn_29 : decode cX12_laidIn 29 = .ok (.iload_n 3, 1) := by decide +kernel
theorem dX12_laidIn_30 : decode cX12_laidIn 30 = .ok (.iadd, 1) := by decide +kernel
theorem dX12_laidIn_31 : decode cX12_laidIn 31 = .ok (.iaload, 1) := by decide +kernel
theorem dX12_laidIn_32 : decode cX12_laidIn 32 = .ok (.goto 4, 3) := by decide +kernel
theorem dX12_laidIn_35 : decode cX12_laidIn 35 = .ok (.iconst 0, 1) := by decide +kernel
theorem dX12_laidIn_36 : decode cX12_laidIn 36 = .ok (.iadd, 1) := by decide +kernel
theorem dX12_laidIn_37 : decode cX12_laidIn 37 = .ok (.istore_n 2, 1) := by decide +kernel
theorem dX12_laidIn_38 : decode cX12_laidIn 38 = .ok (.iinc 3 1, 3) := by decide +kernel
theorem dX12_laidIn_41 : decode cX12_laidIn 41 = .ok (.goto (-37), 3) := by decide +kernel
theorem dX12_laidIn_44 : decode cX12_laidIn 44 = .ok (.iload_n 2, 1) := by decide +kernel
theorem dX12_laidIn_45 : decode cX12_laidIn 45 = .ok (.ireturn, 1) := by decide +kernel
theorem dX12_likely_0 : decode cX12_likely 0 = .ok (.aload_n 0, 1) := by decide +kernel
theorem dX12_likely_1 : decode cX12_likely 1 = .ok (.iload_n 1, 1) := by decide +kernel
theorem dX12_likely_2 : decode cX12_likely 2 = .ok (.invokevirtual 361, 3) := by decide +kernel
theorem dX12_likely_5 : decode cX12_likely 5 = .ok (.ifCond .eq 15, 3) := by decide +kernel
theorem dX12_likely_8 : decode cX12_likely 8 = .ok (.iload_n 2, 1) := by decide +kernel
theorem dX12_likely_9 : decode cX12_likely 9 = .ok (.i2l, 1) := by decide +kernel
theorem dX12_likely_10 : decode cX12_likely 10 = .ok (.lconst 1, 1) := by decide +kernel
theorem dX12_likely_11 : decode cX12_likely 11 = .ok (.ldc2_w 390, 3) := by decide +kernel
theorem dX12_likely_14 : decode cX12_likely 14 = .ok (.invokestatic 121, 3) := by decide +kernel
theorem dX12_likely_17 : decode cX12_likely 17 = .ok (.ifCond .ne 5, 3) := by decide +kernel
theorem dX12_likely_20 : decode cX12_likely 20 = .ok (.iconst (-1), 1) := by decide +kernel
theorem dX12_likely_21 : decode cX12_likely 21 = .ok (.ireturn, 1) := by decide +kernel
theorem dX12_likely_22 : decode cX12_likely 22 = .ok (.sipush 10000, 3) := by decide +kernel
theorem dX12_likely_25 : decode cX12_likely 25 = .ok (.istore_n 3, 1) := by decide +kernel
theorem dX12_likely_26 : decode cX12_likely 26 = .ok (.iconst 0, 1) := by decide +kernel
theorem dX12_likely_27 : decode cX12_likely 27 = .ok (.istore 4, 2) := by decide +kernel
theorem dX12_likely_29 : decode cX12_likely 29 = .ok (.iload 4, 2) := by decide +kernel
theorem dX12_likely_31 : decode cX12_likely 31 = .ok (.iload_n 2, 1) := by decide +kernel
theorem dX12_likely_32 : decode cX12_likely 32 = .ok (.if_icmp .ge 28, 3) := by decide +kernel
theorem dX12_likely_35 : decode cX12_likely 35 = .ok (.iload_n 3, 1) := by decide +kernel
theorem dX12_likely_36 : decode cX12_likely 36 = .ok (.iload_n 3, 1) := by decide +kernel
theorem dX12_likely_37 : decode cX12_likely 37 = .ok (.aload_n 0, 1) := by decide +kernel
theorem dX12_likely_38 : decode cX12_likely 38 = .ok (.iload_n 1, 1) := by decide +kernel
theorem dX12_likely_39 : decode cX12_likely 39 = .ok (.iconst 0, 1) := by decide +kernel
theorem dX12_likely_40 : decode cX12_likely 40 = .ok (.invokevirtual 311, 3) := by decide +kernel
theorem dX12_likely_43 : decode cX12_likely 43 = .ok (.imul, 1) := by decide +kernel
theorem dX12_likely_44 : decode cX12_likely 44 = .ok (.sipush 999, 3) := by decide +kernel
theorem dX12_likely_47 : decode cX12_likely 47 = .ok (.iadd, 1) := by decide +kernel
theorem dX12_likely_48 : decode cX12_likely 48 = .ok (.sipush 1000, 3) := by decide +kernel
theorem dX12_likely_51 : decode cX12_likely 51 = .ok (.idiv, 1) := by decide +kernel
theorem dX12_likely_52 : decode cX12_likely 52 = .ok (.isub, 1) := by decide +kernel
theorem dX12_likely_53 : decode cX12_likely 53 = .ok (.istore_n 3, 1) := by decide +kernel
theorem dX12_likely_54 : decode cX12_likely 54 = .ok (.iinc 4 1, 3) := by decide +kernel
theorem dX12_likely_57 : decode cX12_likely 57 = .ok (.goto (-28), 3) := by decide +kernel
theorem dX12_likely_60 : decode cX12_likely 60 = .ok (.sipush 10000, 3) := by decide +kernel
theorem dX12_likely_63 : decode cX12_likely 63 = .ok (.iload_n 3, 1) := by decide +kernel
theorem dX12_likely_64 : decode cX12_likely 64 = .ok (.isub, 1) := by decide +kernel
theorem dX12_likely_65 : decode cX12_likely 65 = .ok (.ireturn, 1) := by decide +kernel
theorem dX12_likes_0 : decode cX12_likes 0 = .ok (.aload_n 0, 1) := by decide +kernel
theorem dX12_likes_1 : decode cX12_likes 1 = .ok (.iload_n 1, 1) := by decide +kernel
theorem dX12_likes_2 : decode cX12_likes 2 = .ok (.invokevirtual 301, 3) := by decide +kernel
theorem dX12_likes_5 : decode cX12_likes 5 = .ok (.ifCond .eq 28, 3) := by decide +kernel
theorem dX12_likes_8 : decode cX12_likes 8 = .ok (.aload_n 0, 1) := by decide +kernel
theorem dX12_likes_9 : decode cX12_likes 9 = .ok (.iload_n 2, 1) := by decide +kernel
theorem dX12_likes_10 : decode cX12_likes 10 = .ok (.invokevirtual 301, 3) := by decide +kernel
theorem dX12_likes_13 : decode cX12_likes 13 = .ok (.ifCond .eq 20, 3) := by decide +kernel
theorem dX12_likes_16 : decode cX12_likes 16 = .ok (.aload_n 0, 1) := by decide +kernel
theorem dX12_likes_17 : decode cX12_likes 17 = .ok (.getfield 39, 3) := by decide +kernel
theorem dX12_likes_20 : decode cX12_likes 20 = .ok (.bipush 70, 2) := by decide +kernel
theorem dX12_likes_22 : decode cX12_likes 22 = .ok (.bipush 6, 2) := by decide +kernel
theorem dX12_likes_24 : decode cX12_likes 24 = .ok (.iload_n 1, 1) := by decide +kernel
theorem dX12_likes_25 : decode cX12_likes 25 = .ok (.imul, 1) := by decide +kernel
theorem dX12_likes_26 : decode cX12_likes 26 = .ok (.iadd, 1) := by decide +kernel
theorem dX12_likes_27 : decode cX12_likes 27 = .ok (.iload_n 2, 1) := by decide +kernel
theorem dX12_likes_28 : decode cX12_likes 28 = .ok (.iadd, 1) := by decide +kernel
theorem dX12_likes_29 : decode cX12_likes 29 = .ok (.iaload, 1) := by decide +kernel
theorem dX12_likes_30 : decode cX12_likes 30 = .ok (.goto 4, 3) := by decide +kernel
theorem dX12_likes_33 : decode cX12_likes 33 = .ok (.iconst (-1), 1) := by decide +kernel
theorem dX12_likes_34 : decode cX12_likes 34 = .ok (.ireturn, 1) := by decide +kernel
theorem dX12_note_0 : decode cX12_note 0 = .ok (.iload_n 1, 1) := by decide +kernel
theorem dX12_note_1 : decode cX12_note 1 = .ok (.iconst (-1), 1) := by decide +kernel
theorem dX12_note_2 : decode cX12_note 2 = .ok (.if_icmp .ne 14, 3) := by decide +kernel
theorem dX12_note_5 : decode cX12_note 5 = .ok (.aload_n 0, 1) := by decide +kernel
theorem dX12_note_6 : decode cX12_note 6 = .ok (.getfield 39, 3) := by decide +kernel
theorem dX12_note_9 : decode cX12_note 9 = .ok (.sipush 305, 3) := by decide +kernel
theorem dX12_note_12 : decode cX12_note 12 = .ok (.iconst 0, 1) := by decide +kernel
theorem dX12_note_13 : decode cX12_note 13 = .ok (.iastore, 1) := by decide +kernel
theorem dX12_note_14 : decode cX12_note 14 = .ok (.iconst 0, 1) := by decide +kernel
theorem dX12_note_15 : decode cX12_note 15 = .ok (.ireturn, 1) := by decide +kernel
theorem dX12_note_16 : decode cX12_note 16 = .ok (.aload_n 0, 1) := by decide +kernel
theorem dX12_note_17 : decode cX12_note 17 = .ok (.invokevirtual 379, 3) := by decide +kernel
theorem dX12_note_20 : decode cX12_note 20 = .ok (.ifCond .eq 41, 3) := by decide +kernel
theorem dX12_note_23 : decode cX12_note 23 = .ok (.iload_n 1, 1) := by decide +kernel
theorem dX12_note_24 : decode cX12_note 24 = .ok (.i2l, 1) := by decide +kernel
theorem dX12_note_25 : decode cX12_note 25 = .ok (.lconst 0, 1) := by decide +kernel
theorem dX12_note_26 : decode cX12_note 26 = .ok (.ldc2_w 390, 3) := by decide +kernel
theorem dX12_note_29 : decode cX12_note 29 = .ok (.invokestatic 121, 3) := by decide +kernel
theorem dX12_note_32 : decode cX12_note 32 = .ok (.ifCond .eq 29, 3) := by decide +kernel
theorem dX12_note_35 : decode cX12_note 35 = .ok (.iload_n 2, 1) := by decide +kernel
theorem dX12_note_36 : decode cX12_note 36 = .ok (.iconst (-1), 1) := by decide +kernel
theorem dX12_note_37 : decode cX12_note 37 = .ok (.if_icmp .eq 11, 3) := by decide +kernel
theorem dX12_note_40 : decode cX12_note 40 = .ok (.aload_n 0, 1) := by decide +kernel
theorem dX12_note_41 : decode cX12_note 41 = .ok (.iload_n 2, 1) := by decide +kernel
theorem dX12_note_42 : decode cX12_note 42 = .ok (.invokevirtual 301, 3) := by decide +kernel
theorem dX12_note_45 : decode cX12_note 45 = .ok (.ifCond .eq 16, 3) := by decide +kernel
theorem dX12_note_48 : decode cX12_note 48 = .ok (.aload_n 0, 1) := by decide +kernel
theorem dX12_note_49 : decode cX12_note 49 = .ok (.getfield 39, 3) := by decide +kernel
theorem dX12_note_52 : decode cX12_note 52 = .ok (.sipush 305, 3) := by decide +kernel
theorem dX12_note_55 : decode cX12_note 55 = .ok (.iaload, 1) := by decide +kernel
theorem dX12_note_56 : decode cX12_note 56 = .ok (.bipush 10, 2) := by decide +kernel
theorem dX12_note_58 : decode cX12_note 58 = .ok (.if_icmp .ne 6, 3) := by decide +kernel
theorem dX12_note_61 : decode cX12_note 61 = .ok (.bipush (-2), 2) := by decide +kernel
theorem dX12_note_63 : decode cX12_note 63 = .ok (.ireturn, 1) := by decide +kernel
theorem dX12_note_64 : decode cX12_note 64 = .ok (.aload_n 0, 1) := by decide +kernel
theorem dX12_note_65 : decode cX12_note 65 = .ok (.getfield 39, 3) := by decide +kernel
theorem dX12_note_68 : decode cX12_note 68 = .ok (.sipush 285, 3) := by decide +kernel
theorem dX12_note_71 : decode cX12_note 71 = .ok (.iconst 2, 1) := by decide +kernel
theorem dX12_note_72 : decode cX12_note 72 = .ok (.aload_n 0, 1) := by decide +kernel
theorem dX12_note_73 : decode cX12_note 73 = .ok (.getfield 39, 3) := by decide +kernel
theorem dX12_note_76 : decode cX12_note 76 = .ok (.sipush 305, 3) := by decide +kernel
theorem dX12_note_79 : decode cX12_note 79 = .ok (.iaload, 1) := by decide +kernel
theorem dX12_note_80 : decode cX12_note 80 = .ok (.imul, 1) := by decide +kernel
theorem dX12_note_81 : decode cX12_note 81 = .ok (.iadd, 1) := by decide +kernel
theorem dX12_note_82 : decode cX12_note 82 = .ok (.iload_n 1, 1) := by decide +kernel
theorem dX12_note_83 : decode cX12_note 83 = .ok (.iastore, 1) := by decide +kernel
theorem dX12_note_84 : decode cX12_note 84 = .ok (.aload_n 0, 1) := by decide +kernel
theorem dX12_note_85 : decode cX12_note 85 = .ok (.getfield 39, 3) := by decide +kernel
theorem dX12_note_88 : decode cX12_note 88 = .ok (.sipush 285, 3) := by decide +kernel
theorem dX12_note_91 : decode cX12_note 91 = .ok (.iconst 2, 1) := by decide +kernel
theorem dX12_note_92 : decode cX12_note 92 = .ok (.aload_n 0, 1) := by decide +kernel
theorem dX12_note_93 : decode cX12_note 93 = .ok (.getfield 39, 3) := by decide +kernel
theorem dX12_note_96 : decode cX12_note 96 = .ok (.sipush 305, 3) := by decide +kernel
theorem dX12_note_99 : decode cX12_note 99 = .ok (.iaload, 1) := by decide +kernel
theorem dX12_note_100 : decode cX12_note 100 = .ok (.imul, 1) := by decide +kernel
theorem dX12_note_101 : decode cX12_note 101 = .ok (.iadd, 1) := by decide +kernel
theorem dX12_note_102 : decode cX12_note 102 = .ok (.iconst 1, 1) := by decide +kernel
theorem dX12_note_103 : decode cX12_note 103 = .ok (.iadd, 1) := by decide +kernel
theorem dX12_note_104 : decode cX12_note 104 = .ok (.iload_n 2, 1) := by decide +kernel
theorem dX12_note_105 : decode cX12_note 105 = .ok (.iastore, 1) := by decide +kernel
theorem dX12_note_106 : decode cX12_note 106 = .ok (.aload_n 0, 1) := by decide +kernel
theorem dX12_note_107 : decode cX12_note 107 = .ok (.getfield 39, 3) := by decide +kernel
theorem dX12_note_110 : decode cX12_note 110 = .ok (.sipush 305, 3) := by decide +kernel
theorem dX12_note_113 : decode cX12_note 113 = .ok (.dup2, 1) := by decide +kernel
theorem dX12_note_114 : decode cX12_note 114 = .ok (.iaload, 1) := by decide +kernel
theorem dX12_note_115 : decode cX12_note 115 = .ok (.iconst 1, 1) := by decide +kernel
theorem dX12_note_116 : decode cX12_note 116 = .ok (.iadd, 1) := by decide +kernel
theorem dX12_note_117 : decode cX12_note 117 = .ok (.iastore, 1) := by decide +kernel
theorem dX12_note_118 : decode cX12_note 118 = .ok (.aload_n 0, 1) := by decide +kernel
theorem dX12_note_119 : decode cX12_note 119 = .ok (.getfield 39, 3) := by decide +kernel
theorem dX12_note_122 : decode cX12_note 122 = .ok (.sipush 305, 3) := by decide +kernel
theorem dX12_note_125 : decode cX12_note 125 = .ok (.iaload, 1) := by decide +kernel
theorem dX12_note_126 : decode cX12_note 126 = .ok (.ireturn, 1) := by decide +kernel
theorem dX12_promise_0 : decode cX12_promise 0 = .ok (.aload_n 0, 1) := by decide +kernel
theorem dX12_promise_1 : decode cX12_promise 1 = .ok (.iload_n 1, 1) := by decide +kernel
theorem dX12_promise_2 : decode cX12_promise 2 = .ok (.invokevirtual 301, 3) := by decide +kernel
theorem dX12_promise_5 : decode cX12_promise 5 = .ok (.ifCond .eq 25, 3) := by decide +kernel
theorem dX12_promise_8 : decode cX12_promise 8 = .ok (.iload_n 2, 1) := by decide +kernel
theorem dX12_promise_9 : decode cX12_promise 9 = .ok (.i2l, 1) := by decide +kernel
theorem dX12_promise_10 : decode cX12_promise 10 = .ok (.lconst 0, 1) := by decide +kernel
theorem dX12_promise_11 : decode cX12_promise 11 = .ok (.ldc2_w 388, 3) := by decide +kernel
theorem dX12_promise_14 : decode cX12_promise 14 = .ok (.invokestatic 121, 3) := by decide +kernel
theorem dX12_promise_17 : decode cX12_promise 17 = .ok (.ifCond .eq 13, 3) := by decide +kernel
theorem dX12_promise_20 : decode cX12_promise 20 = .ok (.aload_n 0, 1) := by decide +kernel
theorem dX12_promise_21 : decode cX12_promise 21 = .ok (.iload_n 1, 1) := by decide +kernel
theorem dX12_promise_22 : decode cX12_promise 22 = .ok (.iconst 1, 1) := by decide +kernel
theorem dX12_promise_23 : decode cX12_promise 23 = .ok (.invokevirtual 304, 3) := by decide +kernel
theorem dX12_promise_26 : decode cX12_promise 26 = .ok (.iload_n 2, 1) := by decide +kernel
theorem dX12_promise_27 : decode cX12_promise 27 = .ok (.if_icmp .ne 5, 3) := by decide +kernel
theorem dX12_promise_30 : decode cX12_promise 30 = .ok (.iconst (-1), 1) := by decide +kernel
theorem dX12_promise_31 : decode cX12_promise 31 = .ok (.ireturn, 1) := by decide +kernel
theorem dX12_promise_32 : decode cX12_promise 32 = .ok (.aload_n 0, 1) := by decide +kernel
theorem dX12_promise_33 : decode cX12_promise 33 = .ok (.invokevirtual 382, 3) := by decide +kernel
theorem dX12_promise_36 : decode cX12_promise 36 = .ok (.aload_n 0, 1) := by decide +kernel
theorem dX12_promise_37 : decode cX12_promise 37 = .ok (.iload_n 1, 1) := by decide +kernel
theorem dX12_promise_38 : decode cX12_promise 38 = .ok (.iconst 1, 1) := by decide +kernel
theorem dX12_promise_39 : decode cX12_promise 39 = .ok (.invokevirtual 304, 3) := by decide +kernel
theorem dX12_promise_42 : decode cX12_promise 42 = .ok (.istore_n 3, 1) := by decide +kernel
theorem dX12_promise_43 : decode cX12_promise 43 = .ok (.aload_n 0, 1) := by decide +kernel
theorem dX12_promise_44 : decode cX12_promise 44 = .ok (.getfield 39, 3) := by decide +kernel
theorem dX12_promise_47 : decode cX12_promise 47 = .ok (.bipush 16, 2) := by decide +kernel
theorem dX12_promise_49 : decode cX12_promise 49 = .ok (.iconst 3, 1) := by decide +kernel
theorem dX12_promise_50 : decode cX12_promise 50 = .ok (.iload_n 1, 1) := by decide +kernel
theorem dX12_promise_51 : decode cX12_promise 51 = .ok (.imul, 1) := by decide +kernel
theorem dX12_promise_52 : decode cX12_promise 52 = .ok (.iadd, 1) := by decide +kernel
theorem dX12_promise_53 : decode cX12_promise 53 = .ok (.iconst 1, 1) := by decide +kernel
theorem dX12_promise_54 : decode cX12_promise 54 = .ok (.iadd, 1) := by decide +kernel
theorem dX12_promise_55 : decode cX12_promise 55 = .ok (.iload_n 2, 1) := by decide +kernel
theorem dX12_promise_56 : decode cX12_promise 56 = .ok (.iastore, 1) := by decide +kernel
theorem dX12_promise_57 : decode cX12_promise 57 = .ok (.iload_n 3, 1) := by decide +kernel
theorem dX12_promise_58 : decode cX12_promise 58 = .ok (.ireturn, 1) := by decide +kernel
theorem dX12_round_0 : decode cX12_round 0 = .ok (.aload_n 0, 1) := by decide +kernel
theorem dX12_round_1 : decode cX12_round 1 = .ok (.invokevirtual 379, 3) := by decide +kernel
theorem dX12_round_4 : decode cX12_round 4 = .ok (.ifCond .eq 15, 3) := by decide +kernel
theorem dX12_round_7 : decode cX12_round 7 = .ok (.iload_n 1, 1) := by decide +kernel
theorem dX12_round_8 : decode cX12_round 8 = .ok (.i2l, 1) := by decide +kernel
theorem dX12_round_9 : decode cX12_round 9 = .ok (.lconst 0, 1) := by decide +kernel
theorem dX12_round_10 : decode cX12_round 10 = .ok (.ldc2_w 392, 3) := by decide +kernel
theorem dX12_round_13 : decode cX12_round 13 = .ok (.invokestatic 121, 3) := by decide +kernel
theorem dX12_round_16 : decode cX12_round 16 = .ok (.ifCond .ne 5, 3) := by decide +kernel
theorem dX12_round_19 : decode cX12_round 19 = .ok (.iconst (-1), 1) := by decide +kernel
theorem dX12_round_20 : decode cX12_round 20 = .ok (.ireturn, 1) := by decide +kernel
theorem dX12_round_21 : decode cX12_round 21 = .ok (.aload_n 0, 1) := by decide +kernel
theorem dX12_round_22 : decode cX12_round 22 = .ok (.invokevirtual 367, 3) := by decide +kernel
theorem dX12_round_25 : decode cX12_round 25 = .ok (.ifCond .eq 14, 3) := by decide +kernel
theorem dX12_round_28 : decode cX12_round 28 = .ok (.aload_n 0, 1) := by decide +kernel
theorem dX12_round_29 : decode cX12_round 29 = .ok (.getfield 39, 3) := by decide +kernel
theorem dX12_round_32 : decode cX12_round 32 = .ok (.iconst 2, 1) := by decide +kernel
theorem dX12_round_33 : decode cX12_round 33 = .ok (.iaload, 1) := by decide +kernel
theorem dX12_round_34 : decode cX12_round 34 = .ok (.iconst 2, 1) := by decide +kernel
theorem dX12_round_35 : decode cX12_round 35 = .ok (.idiv, 1) := by decide +kernel
theorem dX12_round_36 : decode cX12_round 36 = .ok (.goto 9, 3) := by decide +kernel
theorem dX12_round_39 : decode cX12_round 39 = .ok (.aload_n 0, 1) := by decide +kernel
theorem dX12_round_40 : decode cX12_round 40 = .ok (.getfield 39, 3) := by decide +kernel
theorem dX12_round_43 : decode cX12_round 43 = .ok (.iconst 2, 1) := by decide +kernel
theorem dX12_round_44 : decode cX12_round 44 = .ok (.iaload, 1) := by decide +kernel
theorem dX12_round_45 : decode cX12_round 45 = .ok (.istore_n 2, 1) := by decide +kernel
theorem dX12_round_46 : decode cX12_round 46 = .ok (.iconst 0, 1) := by decide +kernel
theorem dX12_round_47 : decode cX12_round 47 = .ok (.istore_n 3, 1) := by decide +kernel
theorem dX12_round_48 : decode cX12_round 48 = .ok (.iconst 0, 1) := by decide +kernel
theorem dX12_round_49 : decode cX12_round 49 = .ok (.istore 4, 2) := by decide +kernel
theorem dX12_round_51 : decode cX12_round 51 = .ok (.iconst 0, 1) := by decide +kernel
theorem dX12_round_52 : decode cX12_round 52 = .ok (.istore 5, 2) := by decide +kernel
theorem dX12_round_54 : decode cX12_round 54 = .ok (.iload 5, 2) := by decide +kernel
theorem dX12_round_56 : decode cX12_round 56 = .ok (.iconst 1, 1) := by decide +kernel
theorem dX12_round_57 : decode cX12_round 57 = .ok (.aload_n 0, 1) := by decide +kernel
theorem dX12_round_58 : decode cX12_round 58 = .ok (.getfield 39, 3) := by decide +kernel
theorem dX12_round_61 : decode cX12_round 61 = .ok (.iconst 5, 1) := by decide +kernel
theorem dX12_round_62 : decode cX12_round 62 = .ok (.iaload, 1) := by decide +kernel
theorem dX12_round_63 : decode cX12_round 63 = .ok (.ishl, 1) := by decide +kernel
theorem dX12_round_64 : decode cX12_round 64 = .ok (.if_icmp .ge 68, 3) := by decide +kernel
theorem dX12_round_67 : decode cX12_round 67 = .ok (.aload_n 0, 1) := by decide +kernel
theorem dX12_round_68 : decode cX12_round 68 = .ok (.iload 5, 2) := by decide +kernel
theorem dX12_round_70 : decode cX12_round 70 = .ok (.invokevirtual 441, 3) := by decide +kernel
theorem dX12_round_73 : decode cX12_round 73 = .ok (.istore 6, 2) := by decide +kernel
theorem dX12_round_75 : decode cX12_round 75 = .ok (.iload 6, 2) := by decide +kernel
theorem dX12_round_77 : decode cX12_round 77 = .ok (.iload_n 2, 1) := by decide +kernel
theorem dX12_round_78 : decode cX12_round 78 = .ok (.if_icmp .gt 48, 3) := by decide +kernel
theorem dX12_round_81 : decode cX12_round 81 = .ok (.aload_n 0, 1) := by decide +kernel
theorem dX12_round_82 : decode cX12_round 82 = .ok (.iload 5, 2) := by decide +kernel
theorem dX12_round_84 : decode cX12_round 84 = .ok (.invokevirtual 444, 3) := by decide +kernel
theorem dX12_round_87 : decode cX12_round 87 = .ok (.aload_n 0, 1) := by decide +kernel
theorem dX12_round_88 : decode cX12_round 88 = .ok (.iload_n 3, 1) := by decide +kernel
theorem dX12_round_89 : decode cX12_round 89 = .ok (.invokevirtual 444, 3) := by decide +kernel
theorem dX12_round_92 : decode cX12_round 92 = .ok (.if_icmp .lt 34, 3) := by decide +kernel
theorem dX12_round_95 : decode cX12_round 95 = .ok (.aload_n 0, 1) := by decide +kernel
theorem dX12_round_96 : decode cX12_round 96 = .ok (.iload 5, 2) := by decide +kernel
theorem dX12_round_98 : decode cX12_round 98 = .ok (.invokevirtual 444, 3) := by decide +kernel
theorem dX12_round_101 : decode cX12_round 101 = .ok (.aload_n 0, 1) := by decide +kernel
theorem dX12_round_102 : decode cX12_round 102 = .ok (.iload_n 3, 1) := by decide +kernel
theorem dX12_round_103 : decode cX12_round 103 = .ok (.invokevirtual 444, 3) := by decide +kernel
theorem dX12_round_106 : decode cX12_round 106 = .ok (.if_icmp .ne 13, 3) := by decide +kernel
theorem dX12_round_109 : decode cX12_round 109 = .ok (.iload 6, 2) := by decide +kernel
theorem dX12_round_111 : decode cX12_round 111 = .ok (.iload 4, 2) := by decide +kernel
theorem dX12_round_113 : decode cX12_round 113 = .ok (.if_icmp .lt 6, 3) := by decide +kernel
theorem dX12_round_116 : decode cX12_round 116 = .ok (.goto 10, 3) := by decide +kernel
theorem dX12_round_119 : decode cX12_round 119 = .ok (.iload 5, 2) := by decide +kernel
theorem dX12_round_121 : decode cX12_round 121 = .ok (.istore_n 3, 1) := by decide +kernel
theorem dX12_round_122 : decode cX12_round 122 = .ok (.iload 6, 2) := by decide +kernel
theorem dX12_round_124 : decode cX12_round 124 = .ok (.istore 4, 2) := by decide +kernel
theorem dX12_round_126 : decode cX12_round 126 = .ok (.iinc 5 1, 3) := by decide +kernel
theorem dX12_round_129 : decode cX12_round 129 = .ok (.goto (-75), 3) := by decide +kernel
theorem dX12_round_132 : decode cX12_round 132 = .ok (.iload_n 1, 1) := by decide +kernel
theorem dX12_round_133 : decode cX12_round 133 = .ok (.ifCond .ne 11, 3) := by decide +kernel
theorem dX12_round_136 : decode cX12_round 136 = .ok (.aload_n 0, 1) := by decide +kernel
theorem dX12_round_137 : decode cX12_round 137 = .ok (.iload_n 3, 1) := by decide +kernel
theorem dX12_round_138 : decode cX12_round 138 = .ok (.invokevirtual 444, 3) := by decide +kernel
theorem dX12_round_141 : decode cX12_round 141 = .ok (.goto 14, 3) := by decide +kernel
theorem dX12_round_144 : decode cX12_round 144 = .ok (.iload_n 1, 1) := by decide +kernel
theorem dX12_round_145 : decode cX12_round 145 = .ok (.iconst 1, 1) := by decide +kernel
theorem dX12_round_146 : decode cX12_round 146 = .ok (.if_icmp .ne 7, 3) := by decide +kernel
theorem dX12_round_149 : decode cX12_round 149 = .ok (.iload_n 3, 1) := by decide +kernel
theorem dX12_round_150 : decode cX12_round 150 = .ok (.goto 5, 3) := by decide +kernel
theorem dX12_round_153 : decode cX12_round 153 = .ok (.iload 4, 2) := by decide +kernel
theorem dX12_round_155 : decode cX12_round 155 = .ok (.ireturn, 1) := by decide +kernel
theorem dX12_seed_0 : decode cX12_seed 0 = .ok (.iload_n 1, 1) := by decide +kernel
theorem dX12_seed_1 : decode cX12_seed 1 = .ok (.ifCond .ge 5, 3) := by decide +kernel
theorem dX12_seed_4 : decode cX12_seed 4 = .ok (.iconst (-1), 1) := by decide +kernel
theorem dX12_seed_5 : decode cX12_seed 5 = .ok (.ireturn, 1) := by decide +kernel
theorem dX12_seed_6 : decode cX12_seed 6 = .ok (.aload_n 0, 1) := by decide +kernel
theorem dX12_seed_7 : decode cX12_seed 7 = .ok (.getfield 456, 3) := by decide +kernel
theorem dX12_seed_10 : decode cX12_seed 10 = .ok (.istore_n 2, 1) := by decide +kernel
theorem dX12_seed_11 : decode cX12_seed 11 = .ok (.aload_n 0, 1) := by decide +kernel
theorem dX12_seed_12 : decode cX12_seed 12 = .ok (.iload_n 1, 1) := by decide +kernel
theorem dX12_seed_13 : decode cX12_seed 13 = .ok (.putfield 456, 3) := by decide +kernel
theorem dX12_seed_16 : decode cX12_seed 16 = .ok (.iload_n 2, 1) := by decide +kernel
theorem dX12_seed_17 : decode cX12_seed 17 = .ok (.ireturn, 1) := by decide +kernel
theorem dX12_undo_0 : decode cX12_undo 0 = .ok (.aload_n 0, 1) := by decide +kernel
theorem dX12_undo_1 : decode cX12_undo 1 = .ok (.getfield 283, 3) := by decide +kernel
theorem dX12_undo_4 : decode cX12_undo 4 = .ok (.ifCond .ne 5, 3) := by decide +kernel
theorem dX12_undo_7 : decode cX12_undo 7 = .ok (.iconst (-1), 1) := by decide +kernel
theorem dX12_undo_8 : decode cX12_undo 8 = .ok (.ireturn, 1) := by decide +kernel
theorem dX12_undo_9 : decode cX12_undo 9 = .ok (.aload_n 0, 1) := by decide +kernel
theorem dX12_undo_10 : decode cX12_undo 10 = .ok (.dup, 1) := by decide +kernel
theorem dX12_undo_11 : decode cX12_undo 11 = .ok (.getfield 283, 3) := by decide +kernel
theorem dX12_undo_14 : decode cX12_undo 14 = .ok (.iconst 1, 1) := by decide +kernel
theorem dX12_undo_15 : decode cX12_undo 15 = .ok (.isub, 1) := by decide +kernel
theorem dX12_undo_16 : decode cX12_undo 16 = .ok (.putfield 283, 3) := by decide +kernel
theorem dX12_undo_19 : decode cX12_undo 19 = .ok (.iconst 0, 1) := by decide +kernel
theorem dX12_undo_20 : decode cX12_undo 20 = .ok (.istore_n 1, 1) := by decide +kernel
theorem dX12_undo_21 : decode cX12_undo 21 = .ok (.iload_n 1, 1) := by decide +kernel
theorem dX12_undo_22 : decode cX12_undo 22 = .ok (.bipush 42, 2) := by decide +kernel
theorem dX12_undo_24 : decode cX12_undo 24 = .ok (.if_icmp .ge 32, 3) := by decide +kernel
theorem dX12_undo_27 : decode cX12_undo 27 = .ok (.aload_n 0, 1) := by decide +kernel
theorem dX12_undo_28 : decode cX12_undo 28 = .ok (.getfield 39, 3) := by decide +kernel
theorem dX12_undo_31 : decode cX12_undo 31 = .ok (.bipush 10, 2) := by decide +kernel
theorem dX12_undo_33 : decode cX12_undo 33 = .ok (.iload_n 1, 1) := by decide +kernel
theorem dX12_undo_34 : decode cX12_undo 34 = .ok (.iadd, 1) := by decide +kernel
theorem dX12_undo_35 : decode cX12_undo 35 = .ok (.aload_n 0, 1) := by decide +kernel
theorem dX12_undo_36 : decode cX12_undo 36 = .ok (.getfield 49, 3) := by decide +kernel
theorem dX12_undo_39 : decode cX12_undo 39 = .ok (.bipush 42, 2) := by decide +kernel
theorem dX12_undo_41 : decode cX12_undo 41 = .ok (.aload_n 0, 1) := by decide +kernel
theorem dX12_undo_42 : decode cX12_undo 42 = .ok (.getfield 283, 3) := by decide +kernel
theorem dX12_undo_45 : decode cX12_undo 45 = .ok (.imul, 1) := by decide +kernel
theorem dX12_undo_46 : decode cX12_undo 46 = .ok (.iload_n 1, 1) := by decide +kernel
theorem dX12_undo_47 : decode cX12_undo 47 = .ok (.iadd, 1) := by decide +kernel
theorem dX12_undo_48 : decode cX12_undo 48 = .ok (.iaload, 1) := by decide +kernel
theorem dX12_undo_49 : decode cX12_undo 49 = .ok (.iastore, 1) := by decide +kernel
theorem dX12_undo_50 : decode cX12_undo 50 = .ok (.iinc 1 1, 3) := by decide +kernel
theorem dX12_undo_53 : decode cX12_undo 53 = .ok (.goto (-32), 3) := by decide +kernel
theorem dX12_undo_56 : decode cX12_undo 56 = .ok (.aload_n 0, 1) := by decide +kernel
theorem dX12_undo_57 : decode cX12_undo 57 = .ok (.getfield 283, 3) := by decide +kernel
theorem dX12_undo_60 : decode cX12_undo 60 = .ok (.ireturn, 1) := by decide +kernel
theorem li_1000 : (1000 : Int32).toInt = 1000 := by decide
theorem li_285 : (285 : Int32).toInt = 285 := by decide
set_option maxHeartbeats 4000000 in
set_option maxRecDepth 100000 in
theorem t_X12_laidIn (l : Launch) (dC : Nat → ClassId) (dI : Nat → Nat → Nat) (tys : List (ClassId × FieldType)) (κ : tK) (B : Nat) (ws : va_W) (hT : Ty κ tys B ws) (a0 : Nat) (k_a0 : κ a0 = some 12) (a1 : Int32) (l_a1 : 0 ≤ a1.toInt) (h_a1 : a1.toInt ≤ 63) (sz : Nat) : Met l yX12_laidIn (ws_u yX12_laidIn cX12_laidIn 4 (some .int)) ({ frames := 1, cells := 0, slots := 0, locals := 21 }) (va_Pc [.ref a0, .int a1] (cPre (dC, dI) tys ws sz)) (va_Qi (fun (r : Int32) (w : va_W) => Ty κ tys B w ∧ Sm [] [] κ ws w) (fun w t => cPost (dC, dI) tys w (va_A ws sz) t) (va_A ws sz)) 0 0 (va_A ws sz) := by
  refine Met.ofW (cc := cX12_laidIn) (maxL := 4) (ret := (some .int)) (by decide) rfl ?_
  intro p e s m args below meth c s₁ B0 hml hv
  obtain ⟨rfl, hsz, hP, hK, hD0, hE⟩ := hv
  have hx := B0.exec
  have hb := B0.bytes
  have hr := B0.returns
  have hts0 := atoms_spec (ws := ws_u yX12_laidIn cX12_laidIn 4 (some .int)) B0.pre
  have hts : ∀ w ∈ gT, w.before _ s = true := fun w h => hts0 w (List.mem_cons_of_mem _ h)
  have hown : s.vm.findClass RX12 = some m.cls := findClass_of_methodNamed B0.named
  have hlocks := B0.notSynchronized
  subst hsz
  have hD := hD0.self (sz := s.heap.size)
  generalize hAe : va_A ws s.heap.size = A at hD ⊢
  have hA : ∀ q : Nat, s.heap.size ≤ q → A q := fun q h => by rw [← hAe]; exact Or.inr h
  have hw : tW (dC, dI) tys κ B A s ws s.heap [] := ⟨hK, hP, hD, va_S.rf, hT⟩
  have hM : Sm [] [] κ ws ws := Sm.rf
  clear hP hK hD hD0 hts0
  have hl := lv_entry ([.ref a0, .int a1]) (n := 4) (Nat.le_of_ble_eq_true rfl)
  rw [lg_entry_eq]
  generalize (lg_sl ([.ref a0, .int a1]) ++ List.replicate (4 - (lg_sl ([.ref a0, .int a1])).length) Slot.unset).toArray = ls at hl ⊢
  have hl : lv_has ls 4 [(0, .ref a0), (1, .int a1)] := hl
  refine t_start (fun QQ hQ => ?_)
  refine lv_iconst (v := 0) hx hb dX12_laidIn_0 (by decide) ?_
  refine lv_istore_n (lv' := [(2, .int 0), (0, .ref a0), (1, .int a1)]) hx hb dX12_laidIn_1 rfl hl (by decide) rfl (fun ls hl => ?_)
  refine lv_iconst (v := 0) hx hb dX12_laidIn_2 (by decide) ?_
  refine lv_istore_n (lv' := [(3, .int 0), (2, .int 0), (0, .ref a0), (1, .int a1)]) hx hb dX12_laidIn_3 rfl hl (by decide) rfl (fun ls hl => ?_)
  have J4 : ∀ (n : Nat) (H : Heap) (locs : List Loc) (ls : Array Slot), (∃ (w4 : va_W) (p4_l2 : Int32) (p4_l3 : Int32), tW (dC, dI) tys κ B A s w4 H locs ∧ Sm [] [] κ ws w4 ∧ (-2147483648) ≤ p4_l2.toInt ∧ p4_l2.toInt ≤ 2147483647 ∧ 0 ≤ p4_l3.toInt ∧ p4_l3.toInt ≤ 6 ∧ lv_has ls 4 [(0, .ref a0), (1, .int a1), (2, .int p4_l2), (3, .int p4_l3)] ∧ (6 - p4_l3.toInt).toNat = n) → W p l e (headSpec (ws_u yX12_laidIn cX12_laidIn 4 (some .int)) ({ frames := 1, cells := 0, slots := 0, locals := 21 })).room s m ([.ref a0, .int a1] : List Value).toArray below meth c H locs 0 0 QQ (F0 m 4 ls []) := by
    refine loopT _ ?_
    intro n_4 H locs ls hI ih_4
    obtain ⟨w4, p4_l2, p4_l3, hw, hM, l_p4_l2, h_p4_l2, l_p4_l3, h_p4_l3, hl, hn_4⟩ := hI
    refine lv_iload_n hx hb dX12_laidIn_4 rfl (lv_at hl 3 rfl) ?_
    refine lv_aload_n hx hb dX12_laidIn_5 rfl (lv_at hl 0 rfl) ?_
    refine t_getr (k1 := 63) (ci := 12) (C := RX12) (T := TX12) (N := 38) hx hb hts iX12 hown hw k_a0 rfl rfl rfl 20 (by decide) (hts _ tw_1145) (fun _ h9 => h9) dX12_laidIn_6 rfl (fun v6 k_v6 f_a0_X12_20 => ?_)
    refine lv_iconst (v := 5) hx hb dX12_laidIn_9 (by decide) ?_
    refine t_iald hx hb hw k_v6 rfl rfl (by decide) (by decide) dX12_laidIn_10 (fun v10 r_v10 s_v10 f_v6_M_said_5 => ?_)
    have l_v10 : 0 ≤ v10.toInt := by rw [iv_63_5] at r_v10; exact r_v10
    have h_v10 : v10.toInt ≤ 6 := by rw [iv_63_5] at s_v10; exact s_v10
    refine lv_icmp_ge (tgt := 44) hx hb dX12_laidIn_11 (by decide) (fun c_11 => ?_) (fun c_11 => ?_)
    · simp only [fa_lt, fa_le, fa_eq] at c_11
      refine lv_iload_n hx hb dX12_laidIn_44 rfl (lv_at hl 2 rfl) ?_
      rw [hQ]
      refine W.widen (k := 0) (n := 0) (Nat.le_refl _) (Nat.le_refl _) ?_
      exact W.iret (v := p4_l2) hx hb hr (fun t ht hW => ⟨⟨p4_l2, w4, rfl, ⟨hw.2.2.2.2, hM⟩, by rw [ht]; exact hw.2.1, va_K.moved hW.alike hw.1, hw.2.2.1⟩, hw.2.2.2.1.F ht⟩) hw.2.2.2.1.2.2 dX12_laidIn_45
    · simp only [fa_lt, fa_le, fa_eq] at c_11
      refine lv_iload_n hx hb dX12_laidIn_14 rfl (lv_at hl 2 rfl) ?_
      refine lv_iload_n hx hb dX12_laidIn_15 rfl (lv_at hl 1 rfl) ?_
      refine lv_iload_n hx hb dX12_laidIn_16 rfl (lv_at hl 3 rfl) ?_
      refine t_calli (va_runS (As := [.int a1, .int p4_l3]) (rest := [.int p4_l2]) ⟨hx, hb, hml, hown, hts⟩ (t_X12_isOf l dC dI tys κ B w4 hw.2.2.2.2 a1 p4_l3 (by omega) (by omega) H.size) (va_cwS 2 hts (gUS tw_1637 tw_1638 tw_13 tw_1639) rfl rfl rfl (by decide +kernel) ⟨(Nat.le_of_ble_eq_true rfl), (Nat.le_of_ble_eq_true rfl)⟩) ⟨cPre.blind, cPre.use hw.2.1 hw.1 hw.2.2.1 hE⟩ rfl rfl hl.1 rfl (lv_room (Nat.le_of_ble_eq_true rfl)) dX12_laidIn_17 ⟨(Nat.le_of_ble_eq_true rfl), (Nat.le_of_ble_eq_true rfl)⟩) hw hA (fun _ _ h => h.2.2.1) (fun v17 w_1 H locs hp hw => ?_)
      obtain ⟨l_v17, h_v17, _, hm, x_v17_0⟩ := hp
      have hM := hM.trans hm (by decide) (by decide)
      have f_a0_X12_20 := hm.1 _ _ _ _ f_a0_X12_20 (by decide)
      have f_v6_M_said_5 := hm.elt k_v6 (by decide) f_v6_M_said_5
      have J36 : ∀ (H : Heap) (locs : List Loc) (ls : Array Slot) (w36 : va_W) (p36_s0 : Int32), tW (dC, dI) tys κ B A s w36 H locs → Sm [] [] κ ws w36 → (-2147483648) ≤ p36_s0.toInt → p36_s0.toInt ≤ 2147483647 → fld w36 a0 12 20 (.ref v6) → elt w36 v6 (5 : Int32).toInt.toNat v10 → lv_has ls 4 [(0, .ref a0), (1, .int a1), (2, .int p4_l2), (3, .int p4_l3)] → W p l e (headSpec (ws_u yX12_laidIn cX12_laidIn 4 (some .int)) ({ frames := 1, cells := 0, slots := 0, locals := 21 })).room s m ([.ref a0, .int a1] : List Value).toArray below meth c H locs 0 0 QQ (F0 m 36 ls [.int p36_s0, .int p4_l2]) := by
        intro H locs ls w36 p36_s0 hw hM l_p36_s0 h_p36_s0 f_a0_X12_20 f_v6_M_said_5 hl
        refine lv_iadd hx hb dX12_laidIn_36 ?_
        refine lv_topi (fun v36 e_v36 => ?_)
        have l_v36 := i32_lo v36
        have h_v36 := i32_hi v36
        refine lv_istore_n (lv' := [(2, .int v36), (0, .ref a0), (1, .int a1), (3, .int p4_l3)]) hx hb dX12_laidIn_37 rfl hl (by decide) rfl (fun ls hl => ?_)
        obtain ⟨v38, e_v38⟩ : ∃ y : Int32, y = p4_l3 + 1 := ⟨_, rfl⟩
        refine lv_iinc (v := v38) (lv' := [(3, .int v38), (2, .int v36), (0, .ref a0), (1, .int a1)]) hx hb dX12_laidIn_38 hl (k := 3) rfl e_v38.symm (by decide) rfl (fun ls hl => ?_)
        have e_v38 : v38.toInt = p4_l3.toInt + 1 := ad_i e_v38 rfl li_1 (by omega) (by omega)
        refine lv_goto (tgt := 4) hx hb dX12_laidIn_41 (by decide) ?_
        exact ih_4 _ _ _ _ (by omega) ⟨w36, v36, v38, hw, hM, (by omega), (by omega), (by omega), (by omega), (lv_sub hl [2, 3, 1, 0] rfl), rfl⟩
      refine lv_if_eq (tgt := 35) hx hb dX12_laidIn_20 (by decide) (fun c_20 => ?_) (fun c_20 => ?_)
      · simp only [fa_lt, fa_le, fa_eq, li_0] at c_20
        refine lv_iconst (v := 0) hx hb dX12_laidIn_35 (by decide) ?_
        exact J36 _ _ _ w_1 0 hw hM (by decide) (by decide) f_a0_X12_20 f_v6_M_said_5 (lv_sub hl [0, 1, 2, 3] rfl)
      · simp only [fa_lt, fa_le, fa_eq, li_0] at c_20
        refine lv_aload_n hx hb dX12_laidIn_23 rfl (lv_at hl 0 rfl) ?_
        refine t_getk (ci := 12) (C := RX12) (T := TX12) (N := 38) hx hb hts iX12 hown hw rfl 20 (by decide) (hts _ tw_1145) (fun _ h9 => h9) dX12_laidIn_24 f_a0_X12_20 ?_
        refine lv_bipush (v := 34) hx hb dX12_laidIn_27 (by decide) ?_
        refine lv_iload_n hx hb dX12_laidIn_29 rfl (lv_at hl 3 rfl) ?_
        refine lv_iadd hx hb dX12_laidIn_30 ?_
        refine lv_topi (fun v30 e_v30 => ?_)
        have e_v30 : v30.toInt = 34 + p4_l3.toInt := ad_i e_v30 li_34 rfl (by omega) (by omega)
        refine t_iald hx hb hw k_v6 rfl rfl (by omega) (show v30.toInt < 306 by omega) dX12_laidIn_31 (fun v31 r_v31 s_v31 q_v31 => ?_)
        have l_v31 := i32_lo v31
        have h_v31 := i32_hi v31
        refine lv_goto (tgt := 36) hx hb dX12_laidIn_32 (by decide) ?_
        exact J36 _ _ _ w_1 v31 hw hM (by omega) (by omega) f_a0_X12_20 f_v6_M_said_5 (lv_sub hl [0, 1, 2, 3] rfl)
  exact J4 _ _ _ _ ⟨ws, 0, 0, hw, hM, (by decide), (by decide), (by decide), (by decide), (lv_sub hl [2, 3, 1, 0] rfl), rfl⟩
set_option maxHeartbeats 4000000 in
set_option maxRecDepth 100000 in
theorem t_X12_likely (l : Launch) (dC : Nat → ClassId) (dI : Nat → Nat → Nat) (tys : List (ClassId × FieldType)) (κ : tK) (B : Nat) (ws : va_W) (hT : Ty κ tys B ws) (a0 : Nat) (k_a0 : κ a0 = some 12) (a1 : Int32) (a2 : Int32) (sz : Nat) : Met l yX12_likely (ws_u yX12_likely cX12_likely 5 (some .int)) ({ frames := 2, cells := 0, slots := 0, locals := 43 }) (va_Pc [.ref a0, .int a1, .int a2] (cPre (dC, dI) tys ws sz)) (va_Qi (fun (r : Int32) (w : va_W) => Ty κ tys B w ∧ Sm [] [] κ ws w) (fun w t => cPost (dC, dI) tys w (va_A ws sz) t) (va_A ws sz)) 0 0 (va_A ws sz) := by
  refine Met.ofW (cc := cX12_likely) (maxL := 5) (ret := (some .int)) (by decide) rfl ?_
  intro p e s m args below meth c s₁ B0 hml hv
  obtain ⟨rfl, hsz, hP, hK, hD0, hE⟩ := hv
  have hx := B0.exec
  have hb := B0.bytes
  have hr := B0.returns
  have hts0 := atoms_spec (ws := ws_u yX12_likely cX12_likely 5 (some .int)) B0.pre
  have hts : ∀ w ∈ gT, w.before _ s = true := fun w h => hts0 w (List.mem_cons_of_mem _ h)
  have hown : s.vm.findClass RX12 = some m.cls := findClass_of_methodNamed B0.named
  have hlocks := B0.notSynchronized
  subst hsz
  have hD := hD0.self (sz := s.heap.size)
  generalize hAe : va_A ws s.heap.size = A at hD ⊢
  have hA : ∀ q : Nat, s.heap.size ≤ q → A q := fun q h => by rw [← hAe]; exact Or.inr h
  have hw : tW (dC, dI) tys κ B A s ws s.heap [] := ⟨hK, hP, hD, va_S.rf, hT⟩
  have hM : Sm [] [] κ ws ws := Sm.rf
  clear hP hK hD hD0 hts0
  have l_a1 := i32_lo a1
  have h_a1 := i32_hi a1
  have l_a2 := i32_lo a2
  have h_a2 := i32_hi a2
  have hl := lv_entry ([.ref a0, .int a1, .int a2]) (n := 5) (Nat.le_of_ble_eq_true rfl)
  rw [lg_entry_eq]
  generalize (lg_sl ([.ref a0, .int a1, .int a2]) ++ List.replicate (5 - (lg_sl ([.ref a0, .int a1, .int a2])).length) Slot.unset).toArray = ls at hl ⊢
  have hl : lv_has ls 5 [(0, .ref a0), (1, .int a1), (2, .int a2)] := hl
  refine t_start (fun QQ hQ => ?_)
  refine lv_aload_n hx hb dX12_likely_0 rfl (lv_at hl 0 rfl) ?_
  refine lv_iload_n hx hb dX12_likely_1 rfl (lv_at hl 1 rfl) ?_
  refine t_calli (va_runV (As := [.int a1]) (rest := []) ⟨hx, hb, hml, hown, hts⟩ (t_X12_isAlive l dC dI tys κ B ws hw.2.2.2.2 a0 k_a0 a1 s.heap.size) (cwV 1 hts (gUV tw_1571 tw_1573 ts_6_15 tw_13 tw_1574) rfl rfl rfl (by decide +kernel) ⟨(Nat.le_of_ble_eq_true rfl), (Nat.le_of_ble_eq_true rfl)⟩) ⟨cPre.blind, t_recv hw (ci := 12) k_a0 rfl rfl, cPre.use hw.2.1 hw.1 hw.2.2.1 hE⟩ rfl rfl hl.1 rfl (lv_room (Nat.le_of_ble_eq_true rfl)) dX12_likely_2 ⟨(Nat.le_of_ble_eq_true rfl), (Nat.le_of_ble_eq_true rfl)⟩) hw hA (fun _ _ h => h.2.2.1) (fun v2 w_1 H locs hp hw => ?_)
  obtain ⟨l_v2, h_v2, _, hm, x_v2_0⟩ := hp
  have hM := hM.trans hm (by decide) (by decide)
  refine lv_if_eq (tgt := 20) hx hb dX12_likely_5 (by decide) (fun c_5 => ?_) (fun c_5 => ?_)
  · simp only [fa_lt, fa_le, fa_eq, li_0] at c_5
    refine lv_iconst (v := (-1)) hx hb dX12_likely_20 (by decide) ?_
    rw [hQ]
    refine W.widen (k := 0) (n := 0) (Nat.le_refl _) (Nat.le_refl _) ?_
    exact W.iret (v := (-1)) hx hb hr (fun t ht hW => ⟨⟨(-1), w_1, rfl, ⟨hw.2.2.2.2, hM⟩, by rw [ht]; exact hw.2.1, va_K.moved hW.alike hw.1, hw.2.2.1⟩, hw.2.2.2.1.F ht⟩) hw.2.2.2.1.2.2 dX12_likely_21
  · simp only [fa_lt, fa_le, fa_eq, li_0] at c_5
    refine lv_iload_n hx hb dX12_likely_8 rfl (lv_at hl 2 rfl) ?_
    refine lv_i2l hx hb dX12_likely_9 rfl ?_
    refine lv_topl (fun v9 e_v9 => ?_)
    have t_v9 : v9.toInt = a2.toInt := by rw [e_v9, Int32.toInt_toInt64]
    refine lv_lconst (v := 1) hx hb dX12_likely_10 (by decide) ?_
    obtain ⟨v10, e_v10⟩ : ∃ y : Int64, y = 1 := ⟨_, rfl⟩
    refine W.eq (g2 := F0 m 11 ls [.long v10, .long v9]) (by rw [e_v10]) ?_
    have t_v10 : v10.toInt = 1 := by rw [e_v10]; decide
    refine lv_ldc2 (v := 60) hx hb hown (hts _ tw_1596) dX12_likely_11 ?_
    refine lv_topl (fun v11 e_v11 => ?_)
    have t_v11 : v11.toInt = 60 := by rw [e_v11]; decide
    refine t_calli (va_runS (As := [.long v9, .long v10, .long v11]) (rest := []) ⟨hx, hb, hml, hown, hts⟩ (t_X12_in l dC dI tys κ B w_1 hw.2.2.2.2 v9 v10 v11 H.size) (va_cwS 3 hts (gUS tw_1316 tw_1317 tw_13 tw_1318) rfl rfl rfl (by decide +kernel) ⟨(Nat.le_of_ble_eq_true rfl), (Nat.le_of_ble_eq_true rfl)⟩) ⟨cPre.blind, cPre.use hw.2.1 hw.1 hw.2.2.1 hE⟩ rfl rfl hl.1 rfl (lv_room (Nat.le_of_ble_eq_true rfl)) dX12_likely_14 ⟨(Nat.le_of_ble_eq_true rfl), (Nat.le_of_ble_eq_true rfl)⟩) hw hA (fun _ _ h => h.2.2.1) (fun v14 w_2 H locs hp hw => ?_)
    obtain ⟨l_v14, h_v14, _, hm, x_v14_0⟩ := hp
    have hM := hM.trans hm (by decide) (by decide)
    refine lv_if_ne (tgt := 22) hx hb dX12_likely_17 (by decide) (fun c_17 => ?_) (fun c_17 => ?_)
    · simp only [fa_lt, fa_le, fa_eq, li_0] at c_17
      refine lv_sipush (v := 10000) hx hb dX12_likely_22 (by decide) ?_
      refine lv_istore_n (lv' := [(3, .int 10000), (0, .ref a0), (1, .int a1), (2, .int a2)]) hx hb dX12_likely_25 rfl hl (by decide) rfl (fun ls hl => ?_)
      refine lv_iconst (v := 0) hx hb dX12_likely_26 (by decide) ?_
      refine lv_istore (lv' := [(4, .int 0), (3, .int 10000), (0, .ref a0), (1, .int a1), (2, .int a2)]) hx hb dX12_likely_27 hl (by decide) rfl (fun ls hl => ?_)
      have J29 : ∀ (n : Nat) (H : Heap) (locs : List Loc) (ls : Array Slot), (∃ (w29 : va_W) (p29_l3 : Int32) (p29_l4 : Int32), tW (dC, dI) tys κ B A s w29 H locs ∧ Sm [] [] κ ws w29 ∧ (-2147483648) ≤ p29_l3.toInt ∧ p29_l3.toInt ≤ 2147483647 ∧ 0 ≤ p29_l4.toInt ∧ p29_l4.toInt ≤ 60 ∧ lv_has ls 5 [(0, .ref a0), (1, .int a1), (2, .int a2), (3, .int p29_l3), (4, .int p29_l4)] ∧ (60 - p29_l4.toInt).toNat = n) → W p l e (headSpec (ws_u yX12_likely cX12_likely 5 (some .int)) ({ frames := 2, cells := 0, slots := 0, locals := 43 })).room s m ([.ref a0, .int a1, .int a2] : List Value).toArray below meth c H locs 0 0 QQ (F0 m 29 ls []) := by
        refine loopT _ ?_
        intro n_29 H locs ls hI ih_29
        obtain ⟨w29, p29_l3, p29_l4, hw, hM, l_p29_l3, h_p29_l3, l_p29_l4, h_p29_l4, hl, hn_29⟩ := hI
        refine lv_iload hx hb dX12_likely_29 (lv_at hl 4 rfl) ?_
        refine lv_iload_n hx hb dX12_likely_31 rfl (lv_at hl 2 rfl) ?_
        refine lv_icmp_ge (tgt := 60) hx hb dX12_likely_32 (by decide) (fun c_32 => ?_) (fun c_32 => ?_)
        · simp only [fa_lt, fa_le, fa_eq] at c_32
          refine lv_sipush (v := 10000) hx hb dX12_likely_60 (by decide) ?_
          refine lv_iload_n hx hb dX12_likely_63 rfl (lv_at hl 3 rfl) ?_
          refine lv_isub hx hb dX12_likely_64 ?_
          refine lv_topi (fun v64 e_v64 => ?_)
          have l_v64 := i32_lo v64
          have h_v64 := i32_hi v64
          rw [hQ]
          refine W.widen (k := 0) (n := 0) (Nat.le_refl _) (Nat.le_refl _) ?_
          exact W.iret (v := v64) hx hb hr (fun t ht hW => ⟨⟨v64, w29, rfl, ⟨hw.2.2.2.2, hM⟩, by rw [ht]; exact hw.2.1, va_K.moved hW.alike hw.1, hw.2.2.1⟩, hw.2.2.2.1.F ht⟩) hw.2.2.2.1.2.2 dX12_likely_65
        · simp only [fa_lt, fa_le, fa_eq] at c_32
          refine lv_iload_n hx hb dX12_likely_35 rfl (lv_at hl 3 rfl) ?_
          refine lv_iload_n hx hb dX12_likely_36 rfl (lv_at hl 3 rfl) ?_
          refine lv_aload_n hx hb dX12_likely_37 rfl (lv_at hl 0 rfl) ?_
          refine lv_iload_n hx hb dX12_likely_38 rfl (lv_at hl 1 rfl) ?_
          refine lv_iconst (v := 0) hx hb dX12_likely_39 (by decide) ?_
          refine t_calli (va_runV (As := [.int a1, .int 0]) (rest := [.int p29_l3, .int p29_l3]) ⟨hx, hb, hml, hown, hts⟩ (t_X12_canonOf l dC dI tys κ B w29 hw.2.2.2.2 a0 k_a0 a1 (by omega) (by omega) 0 (by decide) (by decide) H.size) (cwV 2 hts (gUV tw_1469 tw_1471 ts_5_10 tw_13 tw_1472) rfl rfl rfl (by decide +kernel) ⟨(Nat.le_of_ble_eq_true rfl), (Nat.le_of_ble_eq_true rfl)⟩) ⟨cPre.blind, t_recv hw (ci := 12) k_a0 rfl rfl, cPre.use hw.2.1 hw.1 hw.2.2.1 hE⟩ rfl rfl hl.1 rfl (lv_room (Nat.le_of_ble_eq_true rfl)) dX12_likely_40 ⟨(Nat.le_of_ble_eq_true rfl), (Nat.le_of_ble_eq_true rfl)⟩) hw hA (fun _ _ h => h.1) (fun v40 w_3 H locs hp hw => ?_)
          obtain ⟨_, hm⟩ := hp
          have l_v40 := i32_lo v40
          have h_v40 := i32_hi v40
          have hM := hM.trans hm (by decide) (by decide)
          refine lv_imul hx hb dX12_likely_43 ?_
          refine lv_topi (fun v43 e_v43 => ?_)
          have l_v43 := i32_lo v43
          have h_v43 := i32_hi v43
          refine lv_sipush (v := 999) hx hb dX12_likely_44 (by decide) ?_
          refine lv_iadd hx hb dX12_likely_47 ?_
          refine lv_topi (fun v47 e_v47 => ?_)
          have l_v47 := i32_lo v47
          have h_v47 := i32_hi v47
          refine lv_sipush (v := 1000) hx hb dX12_likely_48 (by decide) ?_
          refine lv_idiv hx hb dX12_likely_51 (ne_i li_1000 (by decide)) ?_
          refine lv_topi (fun v51 e_v51 => ?_)
          have l_v51 := i32_lo v51
          have h_v51 := i32_hi v51
          refine lv_isub hx hb dX12_likely_52 ?_
          refine lv_topi (fun v52 e_v52 => ?_)
          have l_v52 := i32_lo v52
          have h_v52 := i32_hi v52
          refine lv_istore_n (lv' := [(3, .int v52), (0, .ref a0), (1, .int a1), (2, .int a2), (4, .int p29_l4)]) hx hb dX12_likely_53 rfl hl (by decide) rfl (fun ls hl => ?_)
          obtain ⟨v54, e_v54⟩ : ∃ y : Int32, y = p29_l4 + 1 := ⟨_, rfl⟩
          refine lv_iinc (v := v54) (lv' := [(4, .int v54), (3, .int v52), (0, .ref a0), (1, .int a1), (2, .int a2)]) hx hb dX12_likely_54 hl (k := 4) rfl e_v54.symm (by decide) rfl (fun ls hl => ?_)
          have e_v54 : v54.toInt = p29_l4.toInt + 1 := ad_i e_v54 rfl li_1 (by omega) (by omega)
          refine lv_goto (tgt := 29) hx hb dX12_likely_57 (by decide) ?_
          exact ih_29 _ _ _ _ (by omega) ⟨w_3, v52, v54, hw, hM, (by omega), (by omega), (by omega), (by omega), (lv_sub hl [2, 3, 4, 1, 0] rfl), rfl⟩
      exact J29 _ _ _ _ ⟨w_2, 10000, 0, hw, hM, (by decide), (by decide), (by decide), (by decide), (lv_sub hl [2, 3, 4, 1, 0] rfl), rfl⟩
    · simp only [fa_lt, fa_le, fa_eq, li_0] at c_17
      refine lv_iconst (v := (-1)) hx hb dX12_likely_20 (by decide) ?_
      rw [hQ]
      refine W.widen (k := 0) (n := 0) (Nat.le_refl _) (Nat.le_refl _) ?_
      exact W.iret (v := (-1)) hx hb hr (fun t ht hW => ⟨⟨(-1), w_2, rfl, ⟨hw.2.2.2.2, hM⟩, by rw [ht]; exact hw.2.1, va_K.moved hW.alike hw.1, hw.2.2.1⟩, hw.2.2.2.1.F ht⟩) hw.2.2.2.1.2.2 dX12_likely_21
set_option maxHeartbeats 4000000 in
set_option maxRecDepth 100000 in
theorem t_X12_likes (l : Launch) (dC : Nat → ClassId) (dI : Nat → Nat → Nat) (tys : List (ClassId × FieldType)) (κ : tK) (B : Nat) (ws : va_W) (hT : Ty κ tys B ws) (a0 : Nat) (k_a0 : κ a0 = some 12) (a1 : Int32) (a2 : Int32) (sz : Nat) : Met l yX12_likes (ws_u yX12_likes cX12_likes 3 (some .int)) ({ frames := 1, cells := 0, slots := 0, locals := 21 }) (va_Pc [.ref a0, .int a1, .int a2] (cPre (dC, dI) tys ws sz)) (va_Qi (fun (r : Int32) (w : va_W) => Ty κ tys B w ∧ Sm [] [] κ ws w) (fun w t => cPost (dC, dI) tys w (va_A ws sz) t) (va_A ws sz)) 0 0 (va_A ws sz) := by
  refine Met.ofW (cc := cX12_likes) (maxL := 3) (ret := (some .int)) (by decide) rfl ?_
  intro p e s m args below meth c s₁ B0 hml hv
  obtain ⟨rfl, hsz, hP, hK, hD0, hE⟩ := hv
  have hx := B0.exec
  have hb := B0.bytes
  have hr := B0.returns
  have hts0 := atoms_spec (ws := ws_u yX12_likes cX12_likes 3 (some .int)) B0.pre
  have hts : ∀ w ∈ gT, w.before _ s = true := fun w h => hts0 w (List.mem_cons_of_mem _ h)
  have hown : s.vm.findClass RX12 = some m.cls := findClass_of_methodNamed B0.named
  have hlocks := B0.notSynchronized
  subst hsz
  have hD := hD0.self (sz := s.heap.size)
  generalize hAe : va_A ws s.heap.size = A at hD ⊢
  have hA : ∀ q : Nat, s.heap.size ≤ q → A q := fun q h => by rw [← hAe]; exact Or.inr h
  have hw : tW (dC, dI) tys κ B A s ws s.heap [] := ⟨hK, hP, hD, va_S.rf, hT⟩
  have hM : Sm [] [] κ ws ws := Sm.rf
  clear hP hK hD hD0 hts0
  have l_a1 := i32_lo a1
  have h_a1 := i32_hi a1
  have l_a2 := i32_lo a2
  have h_a2 := i32_hi a2
  have hl := lv_entry ([.ref a0, .int a1, .int a2]) (n := 3) (Nat.le_of_ble_eq_true rfl)
  rw [lg_entry_eq]
  generalize (lg_sl ([.ref a0, .int a1, .int a2]) ++ List.replicate (3 - (lg_sl ([.ref a0, .int a1, .int a2])).length) Slot.unset).toArray = ls at hl ⊢
  have hl : lv_has ls 3 [(0, .ref a0), (1, .int a1), (2, .int a2)] := hl
  refine t_start (fun QQ hQ => ?_)
  refine lv_aload_n hx hb dX12_likes_0 rfl (lv_at hl 0 rfl) ?_
  refine lv_iload_n hx hb dX12_likes_1 rfl (lv_at hl 1 rfl) ?_
  refine t_calli (va_runV (As := [.int a1]) (rest := []) ⟨hx, hb, hml, hown, hts⟩ (t_X12_isBoy l dC dI tys κ B ws hw.2.2.2.2 a0 k_a0 a1 s.heap.size) (cwV 1 hts (gUV tw_1448 tw_1450 ts_5_7 tw_13 tw_1451) rfl rfl rfl (by decide +kernel) ⟨(Nat.le_of_ble_eq_true rfl), (Nat.le_of_ble_eq_true rfl)⟩) ⟨cPre.blind, t_recv hw (ci := 12) k_a0 rfl rfl, cPre.use hw.2.1 hw.1 hw.2.2.1 hE⟩ rfl rfl hl.1 rfl (lv_room (Nat.le_of_ble_eq_true rfl)) dX12_likes_2 ⟨(Nat.le_of_ble_eq_true rfl), (Nat.le_of_ble_eq_true rfl)⟩) hw hA (fun _ _ h => h.2.2.1) (fun v2 w_1 H locs hp hw => ?_)
  obtain ⟨l_v2, h_v2, _, hm, x_v2_0⟩ := hp
  have hM := hM.trans hm (by decide) (by decide)
  refine lv_if_eq (tgt := 33) hx hb dX12_likes_5 (by decide) (fun c_5 => ?_) (fun c_5 => ?_)
  · simp only [fa_lt, fa_le, fa_eq, li_0] at c_5
    refine lv_iconst (v := (-1)) hx hb dX12_likes_33 (by decide) ?_
    rw [hQ]
    refine W.widen (k := 0) (n := 0) (Nat.le_refl _) (Nat.le_refl _) ?_
    exact W.iret (v := (-1)) hx hb hr (fun t ht hW => ⟨⟨(-1), w_1, rfl, ⟨hw.2.2.2.2, hM⟩, by rw [ht]; exact hw.2.1, va_K.moved hW.alike hw.1, hw.2.2.1⟩, hw.2.2.2.1.F ht⟩) hw.2.2.2.1.2.2 dX12_likes_34
  · simp only [fa_lt, fa_le, fa_eq, li_0] at c_5
    refine lv_aload_n hx hb dX12_likes_8 rfl (lv_at hl 0 rfl) ?_
    refine lv_iload_n hx hb dX12_likes_9 rfl (lv_at hl 2 rfl) ?_
    refine t_calli (va_runV (As := [.int a2]) (rest := []) ⟨hx, hb, hml, hown, hts⟩ (t_X12_isBoy l dC dI tys κ B w_1 hw.2.2.2.2 a0 k_a0 a2 H.size) (cwV 1 hts (gUV tw_1448 tw_1450 ts_5_7 tw_13 tw_1451) rfl rfl rfl (by decide +kernel) ⟨(Nat.le_of_ble_eq_true rfl), (Nat.le_of_ble_eq_true rfl)⟩) ⟨cPre.blind, t_recv hw (ci := 12) k_a0 rfl rfl, cPre.use hw.2.1 hw.1 hw.2.2.1 hE⟩ rfl rfl hl.1 rfl (lv_room (Nat.le_of_ble_eq_true rfl)) dX12_likes_10 ⟨(Nat.le_of_ble_eq_true rfl), (Nat.le_of_ble_eq_true rfl)⟩) hw hA (fun _ _ h => h.2.2.1) (fun v10 w_2 H locs hp hw => ?_)
    obtain ⟨l_v10, h_v10, _, hm, x_v10_0⟩ := hp
    have hM := hM.trans hm (by decide) (by decide)
    refine lv_if_eq (tgt := 33) hx hb dX12_likes_13 (by decide) (fun c_13 => ?_) (fun c_13 => ?_)
    · simp only [fa_lt, fa_le, fa_eq, li_0] at c_13
      refine lv_iconst (v := (-1)) hx hb dX12_likes_33 (by decide) ?_
      rw [hQ]
      refine W.widen (k := 0) (n := 0) (Nat.le_refl _) (Nat.le_refl _) ?_
      exact W.iret (v := (-1)) hx hb hr (fun t ht hW => ⟨⟨(-1), w_2, rfl, ⟨hw.2.2.2.2, hM⟩, by rw [ht]; exact hw.2.1, va_K.moved hW.alike hw.1, hw.2.2.1⟩, hw.2.2.2.1.F ht⟩) hw.2.2.2.1.2.2 dX12_likes_34
    · simp only [fa_lt, fa_le, fa_eq, li_0] at c_13
      refine lv_aload_n hx hb dX12_likes_16 rfl (lv_at hl 0 rfl) ?_
      refine t_getr (k1 := 63) (ci := 12) (C := RX12) (T := TX12) (N := 38) hx hb hts iX12 hown hw k_a0 rfl rfl rfl 20 (by decide) (hts _ tw_1145) (fun _ h9 => h9) dX12_likes_17 rfl (fun v17 k_v17 f_a0_X12_20 => ?_)
      refine lv_bipush (v := 70) hx hb dX12_likes_20 (by decide) ?_
      refine lv_bipush (v := 6) hx hb dX12_likes_22 (by decide) ?_
      refine lv_iload_n hx hb dX12_likes_24 rfl (lv_at hl 1 rfl) ?_
      refine lv_imul hx hb dX12_likes_25 ?_
      refine lv_topi (fun v25 e_v25 => ?_)
      have e_v25 : v25.toInt = 6 * a1.toInt := ml_i e_v25 li_6 rfl (by omega) (by omega)
      refine lv_iadd hx hb dX12_likes_26 ?_
      refine lv_topi (fun v26 e_v26 => ?_)
      have e_v26 : v26.toInt = 70 + v25.toInt := ad_i e_v26 li_70 rfl (by omega) (by omega)
      refine lv_iload_n hx hb dX12_likes_27 rfl (lv_at hl 2 rfl) ?_
      refine lv_iadd hx hb dX12_likes_28 ?_
      refine lv_topi (fun v28 e_v28 => ?_)
      have e_v28 : v28.toInt = v26.toInt + a2.toInt := ad_i e_v28 rfl rfl (by omega) (by omega)
      refine t_iald hx hb hw k_v17 rfl rfl (by omega) (show v28.toInt < 306 by omega) dX12_likes_29 (fun v29 r_v29 s_v29 q_v29 => ?_)
      have l_v29 := i32_lo v29
      have h_v29 := i32_hi v29
      refine lv_goto (tgt := 34) hx hb dX12_likes_30 (by decide) ?_
      rw [hQ]
      refine W.widen (k := 0) (n := 0) (Nat.le_refl _) (Nat.le_refl _) ?_
      exact W.iret (v := v29) hx hb hr (fun t ht hW => ⟨⟨v29, w_2, rfl, ⟨hw.2.2.2.2, hM⟩, by rw [ht]; exact hw.2.1, va_K.moved hW.alike hw.1, hw.2.2.1⟩, hw.2.2.2.1.F ht⟩) hw.2.2.2.1.2.2 dX12_likes_34
set_option maxHeartbeats 4000000 in
set_option maxRecDepth 100000 in
theorem t_X12_note (l : Launch) (dC : Nat → ClassId) (dI : Nat → Nat → Nat) (tys : List (ClassId × FieldType)) (κ : tK) (B : Nat) (ws : va_W) (hT : Ty κ tys B ws) (a0 : Nat) (k_a0 : κ a0 = some 12) (a1 : Int32) (a2 : Int32) (f0 : Nat) (k_f0 : κ f0 = some 63) (f_a0_X12_20 : fld ws a0 12 20 (.ref f0)) (f1 : Int32) (l_f1 : 0 ≤ f1.toInt) (h_f1 : f1.toInt ≤ 999) (f_f0_M_said_10 : elt ws f0 (10 : Int32).toInt.toNat f1) (sz : Nat) : Met l yX12_note (ws_u yX12_note cX12_note 3 (some .int)) ({ frames := 1, cells := 0, slots := 0, locals := 25 }) (va_Pc [.ref a0, .int a1, .int a2] (cPre (dC, dI) tys ws sz)) (va_Qi (fun (r : Int32) (w : va_W) => (-2) ≤ r.toInt ∧ r.toInt ≤ 10 ∧ Ty κ tys B w ∧ Sm [] [63] κ ws w ∧ elt w f0 (10 : Int32).toInt.toNat f1) (fun w t => cPost (dC, dI) tys w (va_A ws sz) t) (va_A ws sz)) 0 0 (va_A ws sz) := by
  refine Met.ofW (cc := cX12_note) (maxL := 3) (ret := (some .int)) (by decide) rfl ?_
  intro p e s m args below meth c s₁ B0 hml hv
  obtain ⟨rfl, hsz, hP, hK, hD0, hE⟩ := hv
  have hx := B0.exec
  have hb := B0.bytes
  have hr := B0.returns
  have hts0 := atoms_spec (ws := ws_u yX12_note cX12_note 3 (some .int)) B0.pre
  have hts : ∀ w ∈ gT, w.before _ s = true := fun w h => hts0 w (List.mem_cons_of_mem _ h)
  have hown : s.vm.findClass RX12 = some m.cls := findClass_of_methodNamed B0.named
  have hlocks := B0.notSynchronized
  subst hsz
  have hD := hD0.self (sz := s.heap.size)
  generalize hAe : va_A ws s.heap.size = A at hD ⊢
  have hA : ∀ q : Nat, s.heap.size ≤ q → A q := fun q h => by rw [← hAe]; exact Or.inr h
  have hw : tW (dC, dI) tys κ B A s ws s.heap [] := ⟨hK, hP, hD, va_S.rf, hT⟩
  have hM : Sm [] [63] κ ws ws := Sm.rf
  clear hP hK hD hD0 hts0
  have l_a1 := i32_lo a1
  have h_a1 := i32_hi a1
  have l_a2 := i32_lo a2
  have h_a2 := i32_hi a2
  have hl := lv_entry ([.ref a0, .int a1, .int a2]) (n := 3) (Nat.le_of_ble_eq_true rfl)
  rw [lg_entry_eq]
  generalize (lg_sl ([.ref a0, .int a1, .int a2]) ++ List.replicate (3 - (lg_sl ([.ref a0, .int a1, .int a2])).length) Slot.unset).toArray = ls at hl ⊢
  have hl : lv_has ls 3 [(0, .ref a0), (1, .int a1), (2, .int a2)] := hl
  refine t_start (fun QQ hQ => ?_)
  refine lv_iload_n hx hb dX12_note_0 rfl (lv_at hl 1 rfl) ?_
  refine lv_iconst (v := (-1)) hx hb dX12_note_1 (by decide) ?_
  refine lv_icmp_ne (tgt := 16) hx hb dX12_note_2 (by decide) (fun c_2 => ?_) (fun c_2 => ?_)
  · simp only [fa_lt, fa_le, fa_eq, li_m1] at c_2
    refine lv_aload_n hx hb dX12_note_16 rfl (lv_at hl 0 rfl) ?_
    refine t_calli (va_runV (As := []) (rest := []) ⟨hx, hb, hml, hown, hts⟩ (t_X12_isChoir l dC dI tys κ B ws hw.2.2.2.2 a0 k_a0 s.heap.size) (cwV 0 hts (gUV tw_1489 tw_1491 ts_5_12 tw_13 tw_1492) rfl rfl rfl (by decide +kernel) ⟨(Nat.le_of_ble_eq_true rfl), (Nat.le_of_ble_eq_true rfl)⟩) ⟨cPre.blind, t_recv hw (ci := 12) k_a0 rfl rfl, cPre.use hw.2.1 hw.1 hw.2.2.1 hE⟩ rfl rfl hl.1 rfl (lv_room (Nat.le_of_ble_eq_true rfl)) dX12_note_17 ⟨(Nat.le_of_ble_eq_true rfl), (Nat.le_of_ble_eq_true rfl)⟩) hw hA (fun _ _ h => h.2.2.1) (fun v17 w_1 H locs hp hw => ?_)
    obtain ⟨l_v17, h_v17, _, hm⟩ := hp
    have hM := hM.trans hm (by decide) (by decide)
    have f_a0_X12_20 := hm.1 _ _ _ _ f_a0_X12_20 (by decide)
    have f_f0_M_said_10 := hm.elt k_f0 (by decide) f_f0_M_said_10
    refine lv_if_eq (tgt := 61) hx hb dX12_note_20 (by decide) (fun c_20 => ?_) (fun c_20 => ?_)
    · simp only [fa_lt, fa_le, fa_eq, li_0] at c_20
      refine lv_bipush (v := (-2)) hx hb dX12_note_61 (by decide) ?_
      rw [hQ]
      refine W.widen (k := 0) (n := 0) (Nat.le_refl _) (Nat.le_refl _) ?_
      exact W.iret (v := (-2)) hx hb hr (fun t ht hW => ⟨⟨(-2), w_1, rfl, ⟨(by decide), (by decide), hw.2.2.2.2, hM, f_f0_M_said_10⟩, by rw [ht]; exact hw.2.1, va_K.moved hW.alike hw.1, hw.2.2.1⟩, hw.2.2.2.1.F ht⟩) hw.2.2.2.1.2.2 dX12_note_63
    · simp only [fa_lt, fa_le, fa_eq, li_0] at c_20
      refine lv_iload_n hx hb dX12_note_23 rfl (lv_at hl 1 rfl) ?_
      refine lv_i2l hx hb dX12_note_24 rfl ?_
      refine lv_topl (fun v24 e_v24 => ?_)
      have t_v24 : v24.toInt = a1.toInt := by rw [e_v24, Int32.toInt_toInt64]
      refine lv_lconst (v := 0) hx hb dX12_note_25 (by decide) ?_
      obtain ⟨v25, e_v25⟩ : ∃ y : Int64, y = 0 := ⟨_, rfl⟩
      refine W.eq (g2 := F0 m 26 ls [.long v25, .long v24]) (by rw [e_v25]) ?_
      have t_v25 : v25.toInt = 0 := by rw [e_v25]; decide
      refine lv_ldc2 (v := 60) hx hb hown (hts _ tw_1596) dX12_note_26 ?_
      refine lv_topl (fun v26 e_v26 => ?_)
      have t_v26 : v26.toInt = 60 := by rw [e_v26]; decide
      refine t_calli (va_runS (As := [.long v24, .long v25, .long v26]) (rest := []) ⟨hx, hb, hml, hown, hts⟩ (t_X12_in l dC dI tys κ B w_1 hw.2.2.2.2 v24 v25 v26 H.size) (va_cwS 3 hts (gUS tw_1316 tw_1317 tw_13 tw_1318) rfl rfl rfl (by decide +kernel) ⟨(Nat.le_of_ble_eq_true rfl), (Nat.le_of_ble_eq_true rfl)⟩) ⟨cPre.blind, cPre.use hw.2.1 hw.1 hw.2.2.1 hE⟩ rfl rfl hl.1 rfl (lv_room (Nat.le_of_ble_eq_true rfl)) dX12_note_29 ⟨(Nat.le_of_ble_eq_true rfl), (Nat.le_of_ble_eq_true rfl)⟩) hw hA (fun _ _ h => h.2.2.1) (fun v29 w_2 H locs hp hw => ?_)
      obtain ⟨l_v29, h_v29, _, hm, x_v29_0⟩ := hp
      have hM := hM.trans hm (by decide) (by decide)
      have f_a0_X12_20 := hm.1 _ _ _ _ f_a0_X12_20 (by decide)
      have f_f0_M_said_10 := hm.elt k_f0 (by decide) f_f0_M_said_10
      refine lv_if_eq (tgt := 61) hx hb dX12_note_32 (by decide) (fun c_32 => ?_) (fun c_32 => ?_)
      · simp only [fa_lt, fa_le, fa_eq, li_0] at c_32
        refine lv_bipush (v := (-2)) hx hb dX12_note_61 (by decide) ?_
        rw [hQ]
        refine W.widen (k := 0) (n := 0) (Nat.le_refl _) (Nat.le_refl _) ?_
        exact W.iret (v := (-2)) hx hb hr (fun t ht hW => ⟨⟨(-2), w_2, rfl, ⟨(by decide), (by decide), hw.2.2.2.2, hM, f_f0_M_said_10⟩, by rw [ht]; exact hw.2.1, va_K.moved hW.alike hw.1, hw.2.2.1⟩, hw.2.2.2.1.F ht⟩) hw.2.2.2.1.2.2 dX12_note_63
      · simp only [fa_lt, fa_le, fa_eq, li_0] at c_32
        refine lv_iload_n hx hb dX12_note_35 rfl (lv_at hl 2 rfl) ?_
        refine lv_iconst (v := (-1)) hx hb dX12_note_36 (by decide) ?_
        have J48 : ∀ (H : Heap) (locs : List Loc) (ls : Array Slot) (w48 : va_W), tW (dC, dI) tys κ B A s w48 H locs → Sm [] [63] κ ws w48 → fld w48 a0 12 20 (.ref f0) → elt w48 f0 (10 : Int32).toInt.toNat f1 → lv_has ls 3 [(0, .ref a0), (1, .int a1), (2, .int a2)] → W p l e (headSpec (ws_u yX12_note cX12_note 3 (some .int)) ({ frames := 1, cells := 0, slots := 0, locals := 25 })).room s m ([.ref a0, .int a1, .int a2] : List Value).toArray below meth c H locs 0 0 QQ (F0 m 48 ls []) := by
          intro H locs ls w48 hw hM f_a0_X12_20 f_f0_M_said_10 hl
          refine lv_aload_n hx hb dX12_note_48 rfl (lv_at hl 0 rfl) ?_
          refine t_getk (ci := 12) (C := RX12) (T := TX12) (N := 38) hx hb hts iX12 hown hw rfl 20 (by decide) (hts _ tw_1145) (fun _ h9 => h9) dX12_note_49 f_a0_X12_20 ?_
          refine lv_sipush (v := 305) hx hb dX12_note_52 (by decide) ?_
          refine t_iald hx hb hw k_f0 rfl rfl (by decide) (by decide) dX12_note_55 (fun v55 r_v55 s_v55 f_f0_M_said_305 => ?_)
          have l_v55 : 0 ≤ v55.toInt := by rw [iv_63_305] at r_v55; exact r_v55
          have h_v55 : v55.toInt ≤ 10 := by rw [iv_63_305] at s_v55; exact s_v55
          refine lv_bipush (v := 10) hx hb dX12_note_56 (by decide) ?_
          refine lv_icmp_ne (tgt := 64) hx hb dX12_note_58 (by decide) (fun c_58 => ?_) (fun c_58 => ?_)
          · simp only [fa_lt, fa_le, fa_eq, li_10] at c_58
            refine lv_aload_n hx hb dX12_note_64 rfl (lv_at hl 0 rfl) ?_
            refine t_getk (ci := 12) (C := RX12) (T := TX12) (N := 38) hx hb hts iX12 hown hw rfl 20 (by decide) (hts _ tw_1145) (fun _ h9 => h9) dX12_note_65 f_a0_X12_20 ?_
            refine lv_sipush (v := 285) hx hb dX12_note_68 (by decide) ?_
            refine lv_iconst (v := 2) hx hb dX12_note_71 (by decide) ?_
            refine lv_aload_n hx hb dX12_note_72 rfl (lv_at hl 0 rfl) ?_
            refine t_getk (ci := 12) (C := RX12) (T := TX12) (N := 38) hx hb hts iX12 hown hw rfl 20 (by decide) (hts _ tw_1145) (fun _ h9 => h9) dX12_note_73 f_a0_X12_20 ?_
            refine lv_sipush (v := 305) hx hb dX12_note_76 (by decide) ?_
            refine t_ialdk hx hb hw k_f0 rfl rfl (by decide) (by decide) f_f0_M_said_305 dX12_note_79 ?_
            refine lv_imul hx hb dX12_note_80 ?_
            refine lv_topi (fun v80 e_v80 => ?_)
            have e_v80 : v80.toInt = 2 * v55.toInt := ml_i e_v80 li_2 rfl (by omega) (by omega)
            refine lv_iadd hx hb dX12_note_81 ?_
            refine lv_topi (fun v81 e_v81 => ?_)
            have e_v81 : v81.toInt = 285 + v80.toInt := ad_i e_v81 li_285 rfl (by omega) (by omega)
            refine lv_iload_n hx hb dX12_note_82 rfl (lv_at hl 1 rfl) ?_
            have hs_v81 : (aiv B 63 v81.toInt.toNat).1 ≤ a1.toInt ∧ a1.toInt ≤ (aiv B 63 v81.toInt.toNat).2 := by
              rw [aiv_said, show v81.toInt.toNat = 285 + 2 * v55.toInt.toNat by omega, ivS_note (by omega)]
              exact ⟨by omega, by omega⟩
            refine t_iast hx hb hw k_f0 rfl rfl (by omega) (show v81.toInt < 306 by omega) hs_v81.1 hs_v81.2 dX12_note_83 (fun w_3 H locs hw u => ?_)
            have hM := hM.up3 u k_f0 (by decide)
            have f_a0_X12_20 := u.1 _ _ _ _ f_a0_X12_20
            have f_f0_M_said_10 := u.2.2.1 _ _ _ f_f0_M_said_10 (Or.inr (by rw [show (10 : Int32).toInt.toNat = 10 by decide]; omega))
            have f_f0_M_said_305 := u.2.2.1 _ _ _ f_f0_M_said_305 (Or.inr (by rw [show (305 : Int32).toInt.toNat = 305 by decide]; omega))
            refine lv_aload_n hx hb dX12_note_84 rfl (lv_at hl 0 rfl) ?_
            refine t_getk (ci := 12) (C := RX12) (T := TX12) (N := 38) hx hb hts iX12 hown hw rfl 20 (by decide) (hts _ tw_1145) (fun _ h9 => h9) dX12_note_85 f_a0_X12_20 ?_
            refine lv_sipush (v := 285) hx hb dX12_note_88 (by decide) ?_
            refine lv_iconst (v := 2) hx hb dX12_note_91 (by decide) ?_
            refine lv_aload_n hx hb dX12_note_92 rfl (lv_at hl 0 rfl) ?_
            refine t_getk (ci := 12) (C := RX12) (T := TX12) (N := 38) hx hb hts iX12 hown hw rfl 20 (by decide) (hts _ tw_1145) (fun _ h9 => h9) dX12_note_93 f_a0_X12_20 ?_
            refine lv_sipush (v := 305) hx hb dX12_note_96 (by decide) ?_
            refine t_ialdk hx hb hw k_f0 rfl rfl (by decide) (by decide) f_f0_M_said_305 dX12_note_99 ?_
            refine lv_imul hx hb dX12_note_100 ?_
            refine lv_topi (fun v100 e_v100 => ?_)
            have e_v100 : v100.toInt = 2 * v55.toInt := ml_i e_v100 li_2 rfl (by omega) (by omega)
            refine lv_iadd hx hb dX12_note_101 ?_
            refine lv_topi (fun v101 e_v101 => ?_)
            have e_v101 : v101.toInt = 285 + v100.toInt := ad_i e_v101 li_285 rfl (by omega) (by omega)
            refine lv_iconst (v := 1) hx hb dX12_note_102 (by decide) ?_
            refine lv_iadd hx hb dX12_note_103 ?_
            refine lv_topi (fun v103 e_v103 => ?_)
            have e_v103 : v103.toInt = v101.toInt + 1 := ad_i e_v103 rfl li_1 (by omega) (by omega)
            refine lv_iload_n hx hb dX12_note_104 rfl (lv_at hl 2 rfl) ?_
            have hs_v103 : (aiv B 63 v103.toInt.toNat).1 ≤ a2.toInt ∧ a2.toInt ≤ (aiv B 63 v103.toInt.toNat).2 := by
              rw [aiv_said, show v103.toInt.toNat = 286 + 2 * v55.toInt.toNat by omega, ivS_note1 (by omega)]
              exact ⟨by omega, by omega⟩
            refine t_iast hx hb hw k_f0 rfl rfl (by omega) (show v103.toInt < 306 by omega) hs_v103.1 hs_v103.2 dX12_note_105 (fun w_4 H locs hw u => ?_)
            have hM := hM.up3 u k_f0 (by decide)
            have f_a0_X12_20 := u.1 _ _ _ _ f_a0_X12_20
            have f_f0_M_said_10 := u.2.2.1 _ _ _ f_f0_M_said_10 (Or.inr (by rw [show (10 : Int32).toInt.toNat = 10 by decide]; omega))
            have f_f0_M_said_305 := u.2.2.1 _ _ _ f_f0_M_said_305 (Or.inr (by rw [show (305 : Int32).toInt.toNat = 305 by decide]; omega))
            refine lv_aload_n hx hb dX12_note_106 rfl (lv_at hl 0 rfl) ?_
            refine t_getk (ci := 12) (C := RX12) (T := TX12) (N := 38) hx hb hts iX12 hown hw rfl 20 (by decide) (hts _ tw_1145) (fun _ h9 => h9) dX12_note_107 f_a0_X12_20 ?_
            refine lv_sipush (v := 305) hx hb dX12_note_110 (by decide) ?_
            refine lv_dup2_11 hx hb dX12_note_113 rfl rfl ?_
            refine t_ialdk hx hb hw k_f0 rfl rfl (by decide) (by decide) f_f0_M_said_305 dX12_note_114 ?_
            refine lv_iconst (v := 1) hx hb dX12_note_115 (by decide) ?_
            refine lv_iadd hx hb dX12_note_116 ?_
            refine lv_topi (fun v116 e_v116 => ?_)
            have e_v116 : v116.toInt = v55.toInt + 1 := ad_i e_v116 rfl li_1 (by omega) (by omega)
            refine t_iast hx hb hw k_f0 rfl rfl (by decide) (by decide) (by rw [iv_63_305]; exact (show 0 ≤ v116.toInt by omega)) (by rw [iv_63_305]; exact (show v116.toInt ≤ 10 by omega)) dX12_note_117 (fun w_5 H locs hw u => ?_)
            have hM := hM.up3 u k_f0 (by decide)
            have f_a0_X12_20 := u.1 _ _ _ _ f_a0_X12_20
            have f_f0_M_said_10 := u.2.2.1 _ _ _ f_f0_M_said_10 (Or.inr (by decide))
            have f_f0_M_said_305 := u.2.2.2
            refine lv_aload_n hx hb dX12_note_118 rfl (lv_at hl 0 rfl) ?_
            refine t_getk (ci := 12) (C := RX12) (T := TX12) (N := 38) hx hb hts iX12 hown hw rfl 20 (by decide) (hts _ tw_1145) (fun _ h9 => h9) dX12_note_119 f_a0_X12_20 ?_
            refine lv_sipush (v := 305) hx hb dX12_note_122 (by decide) ?_
            refine t_ialdk hx hb hw k_f0 rfl rfl (by decide) (by decide) f_f0_M_said_305 dX12_note_125 ?_
            rw [hQ]
            refine W.widen (k := 0) (n := 0) (Nat.le_refl _) (Nat.le_refl _) ?_
            exact W.iret (v := v116) hx hb hr (fun t ht hW => ⟨⟨v116, w_5, rfl, ⟨(by omega), (by omega), hw.2.2.2.2, hM, f_f0_M_said_10⟩, by rw [ht]; exact hw.2.1, va_K.moved hW.alike hw.1, hw.2.2.1⟩, hw.2.2.2.1.F ht⟩) hw.2.2.2.1.2.2 dX12_note_126
          · simp only [fa_lt, fa_le, fa_eq, li_10] at c_58
            refine lv_bipush (v := (-2)) hx hb dX12_note_61 (by decide) ?_
            rw [hQ]
            refine W.widen (k := 0) (n := 0) (Nat.le_refl _) (Nat.le_refl _) ?_
            exact W.iret (v := (-2)) hx hb hr (fun t ht hW => ⟨⟨(-2), w48, rfl, ⟨(by decide), (by decide), hw.2.2.2.2, hM, f_f0_M_said_10⟩, by rw [ht]; exact hw.2.1, va_K.moved hW.alike hw.1, hw.2.2.1⟩, hw.2.2.2.1.F ht⟩) hw.2.2.2.1.2.2 dX12_note_63
        refine lv_icmp_eq (tgt := 48) hx hb dX12_note_37 (by decide) (fun c_37 => ?_) (fun c_37 => ?_)
        · simp only [fa_lt, fa_le, fa_eq, li_m1] at c_37
          exact J48 _ _ _ w_2 hw hM f_a0_X12_20 f_f0_M_said_10 (lv_sub hl [0, 1, 2] rfl)
        · simp only [fa_lt, fa_le, fa_eq, li_m1] at c_37
          refine lv_aload_n hx hb dX12_note_40 rfl (lv_at hl 0 rfl) ?_
          refine lv_iload_n hx hb dX12_note_41 rfl (lv_at hl 2 rfl) ?_
          refine t_calli (va_runV (As := [.int a2]) (rest := []) ⟨hx, hb, hml, hown, hts⟩ (t_X12_isBoy l dC dI tys κ B w_2 hw.2.2.2.2 a0 k_a0 a2 H.size) (cwV 1 hts (gUV tw_1448 tw_1450 ts_5_7 tw_13 tw_1451) rfl rfl rfl (by decide +kernel) ⟨(Nat.le_of_ble_eq_true rfl), (Nat.le_of_ble_eq_true rfl)⟩) ⟨cPre.blind, t_recv hw (ci := 12) k_a0 rfl rfl, cPre.use hw.2.1 hw.1 hw.2.2.1 hE⟩ rfl rfl hl.1 rfl (lv_room (Nat.le_of_ble_eq_true rfl)) dX12_note_42 ⟨(Nat.le_of_ble_eq_true rfl), (Nat.le_of_ble_eq_true rfl)⟩) hw hA (fun _ _ h => h.2.2.1) (fun v42 w_6 H locs hp hw => ?_)
          obtain ⟨l_v42, h_v42, _, hm, x_v42_0⟩ := hp
          have hM := hM.trans hm (by decide) (by decide)
          have f_a0_X12_20 := hm.1 _ _ _ _ f_a0_X12_20 (by decide)
          have f_f0_M_said_10 := hm.elt k_f0 (by decide) f_f0_M_said_10
          refine lv_if_eq (tgt := 61) hx hb dX12_note_45 (by decide) (fun c_45 => ?_) (fun c_45 => ?_)
          · simp only [fa_lt, fa_le, fa_eq, li_0] at c_45
            refine lv_bipush (v := (-2)) hx hb dX12_note_61 (by decide) ?_
            rw [hQ]
            refine W.widen (k := 0) (n := 0) (Nat.le_refl _) (Nat.le_refl _) ?_
            exact W.iret (v := (-2)) hx hb hr (fun t ht hW => ⟨⟨(-2), w_6, rfl, ⟨(by decide), (by decide), hw.2.2.2.2, hM, f_f0_M_said_10⟩, by rw [ht]; exact hw.2.1, va_K.moved hW.alike hw.1, hw.2.2.1⟩, hw.2.2.2.1.F ht⟩) hw.2.2.2.1.2.2 dX12_note_63
          · simp only [fa_lt, fa_le, fa_eq, li_0] at c_45
            exact J48 _ _ _ w_6 hw hM f_a0_X12_20 f_f0_M_said_10 (lv_sub hl [0, 1, 2] rfl)
  · simp only [fa_lt, fa_le, fa_eq, li_m1] at c_2
    refine lv_aload_n hx hb dX12_note_5 rfl (lv_at hl 0 rfl) ?_
    refine t_getk (ci := 12) (C := RX12) (T := TX12) (N := 38) hx hb hts iX12 hown hw rfl 20 (by decide) (hts _ tw_1145) (fun _ h9 => h9) dX12_note_6 f_a0_X12_20 ?_
    refine lv_sipush (v := 305) hx hb dX12_note_9 (by decide) ?_
    refine lv_iconst (v := 0) hx hb dX12_note_12 (by decide) ?_
    refine t_iast hx hb hw k_f0 rfl rfl (by decide) (by decide) (by rw [iv_63_305]; exact (show 0 ≤ (0 : Int32).toInt by decide)) (by rw [iv_63_305]; exact (show (0 : Int32).toInt ≤ 10 by decide)) dX12_note_13 (fun w_7 H locs hw u => ?_)
    have hM := hM.up3 u k_f0 (by decide)
    have f_a0_X12_20 := u.1 _ _ _ _ f_a0_X12_20
    have f_f0_M_said_10 := u.2.2.1 _ _ _ f_f0_M_said_10 (Or.inr (by decide))
    have f_f0_M_said_305 := u.2.2.2
    refine lv_iconst (v := 0) hx hb dX12_note_14 (by decide) ?_
    rw [hQ]
    refine W.widen (k := 0) (n := 0) (Nat.le_refl _) (Nat.le_refl _) ?_
    exact W.iret (v := 0) hx hb hr (fun t ht hW => ⟨⟨0, w_7, rfl, ⟨(by decide), (by decide), hw.2.2.2.2, hM, f_f0_M_said_10⟩, by rw [ht]; exact hw.2.1, va_K.moved hW.alike hw.1, hw.2.2.1⟩, hw.2.2.2.1.F ht⟩) hw.2.2.2.1.2.2 dX12_note_15
set_option maxHeartbeats 4000000 in
set_option maxRecDepth 100000 in
theorem t_X12_promise (l : Launch) (dC : Nat → ClassId) (dI : Nat → Nat → Nat) (tys : List (ClassId × FieldType)) (κ : tK) (B : Nat) (ws : va_W) (hT : Ty κ tys B ws) (a0 : Nat) (k_a0 : κ a0 = some 12) (a1 : Int32) (a2 : Int32) (f0 : Nat) (k_f0 : κ f0 = some 63) (f_a0_X12_20 : fld ws a0 12 20 (.ref f0)) (f1 : Int32) (l_f1 : 0 ≤ f1.toInt) (h_f1 : f1.toInt ≤ 999) (f_f0_M_said_10 : elt ws f0 (10 : Int32).toInt.toNat f1) (sz : Nat) : Met l yX12_promise (ws_u yX12_promise cX12_promise 4 (some .int)) ({ frames := 1, cells := 0, slots := 0, locals := 25 }) (va_Pc [.ref a0, .int a1, .int a2] (cPre (dC, dI) tys ws sz)) (va_Qi (fun (r : Int32) (w : va_W) => Ty κ tys B w ∧ Sm [(12, 26)] [63, 65] κ ws w ∧ elt w f0 (10 : Int32).toInt.toNat f1) (fun w t => cPost (dC, dI) tys w (va_A ws sz) t) (va_A ws sz)) 0 0 (va_A ws sz) := by
  refine Met.ofW (cc := cX12_promise) (maxL := 4) (ret := (some .int)) (by decide) rfl ?_
  intro p e s m args below meth c s₁ B0 hml hv
  obtain ⟨rfl, hsz, hP, hK, hD0, hE⟩ := hv
  have hx := B0.exec
  have hb := B0.bytes
  have hr := B0.returns
  have hts0 := atoms_spec (ws := ws_u yX12_promise cX12_promise 4 (some .int)) B0.pre
  have hts : ∀ w ∈ gT, w.before _ s = true := fun w h => hts0 w (List.mem_cons_of_mem _ h)
  have hown : s.vm.findClass RX12 = some m.cls := findClass_of_methodNamed B0.named
  have hlocks := B0.notSynchronized
  subst hsz
  have hD := hD0.self (sz := s.heap.size)
  generalize hAe : va_A ws s.heap.size = A at hD ⊢
  have hA : ∀ q : Nat, s.heap.size ≤ q → A q := fun q h => by rw [← hAe]; exact Or.inr h
  have hw : tW (dC, dI) tys κ B A s ws s.heap [] := ⟨hK, hP, hD, va_S.rf, hT⟩
  have hM : Sm [(12, 26)] [63, 65] κ ws ws := Sm.rf
  clear hP hK hD hD0 hts0
  have l_a1 := i32_lo a1
  have h_a1 := i32_hi a1
  have l_a2 := i32_lo a2
  have h_a2 := i32_hi a2
  have hl := lv_entry ([.ref a0, .int a1, .int a2]) (n := 4) (Nat.le_of_ble_eq_true rfl)
  rw [lg_entry_eq]
  generalize (lg_sl ([.ref a0, .int a1, .int a2]) ++ List.replicate (4 - (lg_sl ([.ref a0, .int a1, .int a2])).length) Slot.unset).toArray = ls at hl ⊢
  have hl : lv_has ls 4 [(0, .ref a0), (1, .int a1), (2, .int a2)] := hl
  refine t_start (fun QQ hQ => ?_)
  refine lv_aload_n hx hb dX12_promise_0 rfl (lv_at hl 0 rfl) ?_
  refine lv_iload_n hx hb dX12_promise_1 rfl (lv_at hl 1 rfl) ?_
  refine t_calli (va_runV (As := [.int a1]) (rest := []) ⟨hx, hb, hml, hown, hts⟩ (t_X12_isBoy l dC dI tys κ B ws hw.2.2.2.2 a0 k_a0 a1 s.heap.size) (cwV 1 hts (gUV tw_1448 tw_1450 ts_5_7 tw_13 tw_1451) rfl rfl rfl (by decide +kernel) ⟨(Nat.le_of_ble_eq_true rfl), (Nat.le_of_ble_eq_true rfl)⟩) ⟨cPre.blind, t_recv hw (ci := 12) k_a0 rfl rfl, cPre.use hw.2.1 hw.1 hw.2.2.1 hE⟩ rfl rfl hl.1 rfl (lv_room (Nat.le_of_ble_eq_true rfl)) dX12_promise_2 ⟨(Nat.le_of_ble_eq_true rfl), (Nat.le_of_ble_eq_true rfl)⟩) hw hA (fun _ _ h => h.2.2.1) (fun v2 w_1 H locs hp hw => ?_)
  obtain ⟨l_v2, h_v2, _, hm, x_v2_0⟩ := hp
  have hM := hM.trans hm (by decide) (by decide)
  have f_a0_X12_20 := hm.1 _ _ _ _ f_a0_X12_20 (by decide)
  have f_f0_M_said_10 := hm.elt k_f0 (by decide) f_f0_M_said_10
  refine lv_if_eq (tgt := 30) hx hb dX12_promise_5 (by decide) (fun c_5 => ?_) (fun c_5 => ?_)
  · simp only [fa_lt, fa_le, fa_eq, li_0] at c_5
    refine lv_iconst (v := (-1)) hx hb dX12_promise_30 (by decide) ?_
    rw [hQ]
    refine W.widen (k := 0) (n := 0) (Nat.le_refl _) (Nat.le_refl _) ?_
    exact W.iret (v := (-1)) hx hb hr (fun t ht hW => ⟨⟨(-1), w_1, rfl, ⟨hw.2.2.2.2, hM, f_f0_M_said_10⟩, by rw [ht]; exact hw.2.1, va_K.moved hW.alike hw.1, hw.2.2.1⟩, hw.2.2.2.1.F ht⟩) hw.2.2.2.1.2.2 dX12_promise_31
  · simp only [fa_lt, fa_le, fa_eq, li_0] at c_5
    refine lv_iload_n hx hb dX12_promise_8 rfl (lv_at hl 2 rfl) ?_
    refine lv_i2l hx hb dX12_promise_9 rfl ?_
    refine lv_topl (fun v9 e_v9 => ?_)
    have t_v9 : v9.toInt = a2.toInt := by rw [e_v9, Int32.toInt_toInt64]
    refine lv_lconst (v := 0) hx hb dX12_promise_10 (by decide) ?_
    obtain ⟨v10, e_v10⟩ : ∃ y : Int64, y = 0 := ⟨_, rfl⟩
    refine W.eq (g2 := F0 m 11 ls [.long v10, .long v9]) (by rw [e_v10]) ?_
    have t_v10 : v10.toInt = 0 := by rw [e_v10]; decide
    refine lv_ldc2 (v := 20) hx hb hown (hts _ tw_1583) dX12_promise_11 ?_
    refine lv_topl (fun v11 e_v11 => ?_)
    have t_v11 : v11.toInt = 20 := by rw [e_v11]; decide
    refine t_calli (va_runS (As := [.long v9, .long v10, .long v11]) (rest := []) ⟨hx, hb, hml, hown, hts⟩ (t_X12_in l dC dI tys κ B w_1 hw.2.2.2.2 v9 v10 v11 H.size) (va_cwS 3 hts (gUS tw_1316 tw_1317 tw_13 tw_1318) rfl rfl rfl (by decide +kernel) ⟨(Nat.le_of_ble_eq_true rfl), (Nat.le_of_ble_eq_true rfl)⟩) ⟨cPre.blind, cPre.use hw.2.1 hw.1 hw.2.2.1 hE⟩ rfl rfl hl.1 rfl (lv_room (Nat.le_of_ble_eq_true rfl)) dX12_promise_14 ⟨(Nat.le_of_ble_eq_true rfl), (Nat.le_of_ble_eq_true rfl)⟩) hw hA (fun _ _ h => h.2.2.1) (fun v14 w_2 H locs hp hw => ?_)
    obtain ⟨l_v14, h_v14, _, hm, x_v14_0⟩ := hp
    have hM := hM.trans hm (by decide) (by decide)
    have f_a0_X12_20 := hm.1 _ _ _ _ f_a0_X12_20 (by decide)
    have f_f0_M_said_10 := hm.elt k_f0 (by decide) f_f0_M_said_10
    refine lv_if_eq (tgt := 30) hx hb dX12_promise_17 (by decide) (fun c_17 => ?_) (fun c_17 => ?_)
    · simp only [fa_lt, fa_le, fa_eq, li_0] at c_17
      refine lv_iconst (v := (-1)) hx hb dX12_promise_30 (by decide) ?_
      rw [hQ]
      refine W.widen (k := 0) (n := 0) (Nat.le_refl _) (Nat.le_refl _) ?_
      exact W.iret (v := (-1)) hx hb hr (fun t ht hW => ⟨⟨(-1), w_2, rfl, ⟨hw.2.2.2.2, hM, f_f0_M_said_10⟩, by rw [ht]; exact hw.2.1, va_K.moved hW.alike hw.1, hw.2.2.1⟩, hw.2.2.2.1.F ht⟩) hw.2.2.2.1.2.2 dX12_promise_31
    · simp only [fa_lt, fa_le, fa_eq, li_0] at c_17
      refine lv_aload_n hx hb dX12_promise_20 rfl (lv_at hl 0 rfl) ?_
      refine lv_iload_n hx hb dX12_promise_21 rfl (lv_at hl 1 rfl) ?_
      refine lv_iconst (v := 1) hx hb dX12_promise_22 (by decide) ?_
      refine t_calli (va_runV (As := [.int a1, .int 1]) (rest := []) ⟨hx, hb, hml, hown, hts⟩ (t_X12_boyOf l dC dI tys κ B w_2 hw.2.2.2.2 a0 k_a0 a1 (by omega) (by omega) 1 (by decide) (by decide) H.size) (cwV 2 hts (gUV tw_1453 tw_1455 ts_5_8 tw_13 tw_1456) rfl rfl rfl (by decide +kernel) ⟨(Nat.le_of_ble_eq_true rfl), (Nat.le_of_ble_eq_true rfl)⟩) ⟨cPre.blind, t_recv hw (ci := 12) k_a0 rfl rfl, cPre.use hw.2.1 hw.1 hw.2.2.1 hE⟩ rfl rfl hl.1 rfl (lv_room (Nat.le_of_ble_eq_true rfl)) dX12_promise_23 ⟨(Nat.le_of_ble_eq_true rfl), (Nat.le_of_ble_eq_true rfl)⟩) hw hA (fun _ _ h => h.1) (fun v23 w_3 H locs hp hw => ?_)
      obtain ⟨_, hm⟩ := hp
      have l_v23 := i32_lo v23
      have h_v23 := i32_hi v23
      have hM := hM.trans hm (by decide) (by decide)
      have f_a0_X12_20 := hm.1 _ _ _ _ f_a0_X12_20 (by decide)
      have f_f0_M_said_10 := hm.elt k_f0 (by decide) f_f0_M_said_10
      refine lv_iload_n hx hb dX12_promise_26 rfl (lv_at hl 2 rfl) ?_
      refine lv_icmp_ne (tgt := 32) hx hb dX12_promise_27 (by decide) (fun c_27 => ?_) (fun c_27 => ?_)
      · simp only [fa_lt, fa_le, fa_eq] at c_27
        refine lv_aload_n hx hb dX12_promise_32 rfl (lv_at hl 0 rfl) ?_
        refine t_callv (va_runV (As := []) (rest := []) ⟨hx, hb, hml, hown, hts⟩ (t_X12_keepsAct l dC dI tys κ B w_3 hw.2.2.2.2 a0 k_a0 f0 k_f0 f_a0_X12_20 f1 (by omega) (by omega) f_f0_M_said_10 H.size) (cwV 0 hts (gUV tw_1493 tw_1495 ts_5_13 tw_13 tw_1496) rfl rfl rfl (by decide +kernel) ⟨(Nat.le_of_ble_eq_true rfl), (Nat.le_of_ble_eq_true rfl)⟩) ⟨cPre.blind, t_recv hw (ci := 12) k_a0 rfl rfl, cPre.use hw.2.1 hw.1 hw.2.2.1 hE⟩ rfl rfl hl.1 rfl (lv_room (Nat.le_of_ble_eq_true rfl)) dX12_promise_33 ⟨(Nat.le_of_ble_eq_true rfl), (Nat.le_of_ble_eq_true rfl)⟩) hw hA (fun _ h => h.1) (fun w_4 H locs hp hw => ?_)
        obtain ⟨_, hm⟩ := hp
        have hM := hM.trans hm (by decide) (by decide)
        have f_a0_X12_20 := hm.1 _ _ _ _ f_a0_X12_20 (by decide)
        have f_f0_M_said_10 := hm.elt k_f0 (by decide) f_f0_M_said_10
        refine lv_aload_n hx hb dX12_promise_36 rfl (lv_at hl 0 rfl) ?_
        refine lv_iload_n hx hb dX12_promise_37 rfl (lv_at hl 1 rfl) ?_
        refine lv_iconst (v := 1) hx hb dX12_promise_38 (by decide) ?_
        refine t_calli (va_runV (As := [.int a1, .int 1]) (rest := []) ⟨hx, hb, hml, hown, hts⟩ (t_X12_boyOf l dC dI tys κ B w_4 hw.2.2.2.2 a0 k_a0 a1 (by omega) (by omega) 1 (by decide) (by decide) H.size) (cwV 2 hts (gUV tw_1453 tw_1455 ts_5_8 tw_13 tw_1456) rfl rfl rfl (by decide +kernel) ⟨(Nat.le_of_ble_eq_true rfl), (Nat.le_of_ble_eq_true rfl)⟩) ⟨cPre.blind, t_recv hw (ci := 12) k_a0 rfl rfl, cPre.use hw.2.1 hw.1 hw.2.2.1 hE⟩ rfl rfl hl.1 rfl (lv_room (Nat.le_of_ble_eq_true rfl)) dX12_promise_39 ⟨(Nat.le_of_ble_eq_true rfl), (Nat.le_of_ble_eq_true rfl)⟩) hw hA (fun _ _ h => h.1) (fun v39 w_5 H locs hp hw => ?_)
        obtain ⟨_, hm⟩ := hp
        have l_v39 := i32_lo v39
        have h_v39 := i32_hi v39
        have hM := hM.trans hm (by decide) (by decide)
        have f_a0_X12_20 := hm.1 _ _ _ _ f_a0_X12_20 (by decide)
        have f_f0_M_said_10 := hm.elt k_f0 (by decide) f_f0_M_said_10
        refine lv_istore_n (lv' := [(3, .int v39), (0, .ref a0), (1, .int a1), (2, .int a2)]) hx hb dX12_promise_42 rfl hl (by decide) rfl (fun ls hl => ?_)
        refine lv_aload_n hx hb dX12_promise_43 rfl (lv_at hl 1 rfl) ?_
        refine t_getk (ci := 12) (C := RX12) (T := TX12) (N := 38) hx hb hts iX12 hown hw rfl 20 (by decide) (hts _ tw_1145) (fun _ h9 => h9) dX12_promise_44 f_a0_X12_20 ?_
        refine lv_bipush (v := 16) hx hb dX12_promise_47 (by decide) ?_
        refine lv_iconst (v := 3) hx hb dX12_promise_49 (by decide) ?_
        refine lv_iload_n hx hb dX12_promise_50 rfl (lv_at hl 2 rfl) ?_
        refine lv_imul hx hb dX12_promise_51 ?_
        refine lv_topi (fun v51 e_v51 => ?_)
        have e_v51 : v51.toInt = 3 * a1.toInt := ml_i e_v51 li_3 rfl (by omega) (by omega)
        refine lv_iadd hx hb dX12_promise_52 ?_
        refine lv_topi (fun v52 e_v52 => ?_)
        have e_v52 : v52.toInt = 16 + v51.toInt := ad_i e_v52 li_16 rfl (by omega) (by omega)
        refine lv_iconst (v := 1) hx hb dX12_promise_53 (by decide) ?_
        refine lv_iadd hx hb dX12_promise_54 ?_
        refine lv_topi (fun v54 e_v54 => ?_)
        have e_v54 : v54.toInt = v52.toInt + 1 := ad_i e_v54 rfl li_1 (by omega) (by omega)
        refine lv_iload_n hx hb dX12_promise_55 rfl (lv_at hl 3 rfl) ?_
        refine t_iast hx hb hw k_f0 rfl rfl (by omega) (show v54.toInt < 306 by omega) (by rw [fr_63 (by omega) (by omega)]; exact i32_lo _) (by rw [fr_63 (by omega) (by omega)]; exact i32_hi _) dX12_promise_56 (fun w_6 H locs hw u => ?_)
        have hM := hM.up3 u k_f0 (by decide)
        have f_a0_X12_20 := u.1 _ _ _ _ f_a0_X12_20
        have f_f0_M_said_10 := u.2.2.1 _ _ _ f_f0_M_said_10 (Or.inr (by rw [show (10 : Int32).toInt.toNat = 10 by decide]; omega))
        refine lv_iload_n hx hb dX12_promise_57 rfl (lv_at hl 0 rfl) ?_
        rw [hQ]
        refine W.widen (k := 0) (n := 0) (Nat.le_refl _) (Nat.le_refl _) ?_
        exact W.iret (v := v39) hx hb hr (fun t ht hW => ⟨⟨v39, w_6, rfl, ⟨hw.2.2.2.2, hM, f_f0_M_said_10⟩, by rw [ht]; exact hw.2.1, va_K.moved hW.alike hw.1, hw.2.2.1⟩, hw.2.2.2.1.F ht⟩) hw.2.2.2.1.2.2 dX12_promise_58
      · simp only [fa_lt, fa_le, fa_eq] at c_27
        refine lv_iconst (v := (-1)) hx hb dX12_promise_30 (by decide) ?_
        rw [hQ]
        refine W.widen (k := 0) (n := 0) (Nat.le_refl _) (Nat.le_refl _) ?_
        exact W.iret (v := (-1)) hx hb hr (fun t ht hW => ⟨⟨(-1), w_3, rfl, ⟨hw.2.2.2.2, hM, f_f0_M_said_10⟩, by rw [ht]; exact hw.2.1, va_K.moved hW.alike hw.1, hw.2.2.1⟩, hw.2.2.2.1.F ht⟩) hw.2.2.2.1.2.2 dX12_promise_31
set_option maxHeartbeats 4000000 in
set_option maxRecDepth 100000 in
theorem t_X12_round (l : Launch) (dC : Nat → ClassId) (dI : Nat → Nat → Nat) (tys : List (ClassId × FieldType)) (κ : tK) (B : Nat) (ws : va_W) (hT : Ty κ tys B ws) (a0 : Nat) (k_a0 : κ a0 = some 12) (a1 : Int32) (sz : Nat) : Met l yX12_round (ws_u yX12_round cX12_round 7 (some .int)) ({ frames := 3, cells := 0, slots := 0, locals := 72 }) (va_Pc [.ref a0, .int a1] (cPre (dC, dI) tys ws sz)) (va_Qi (fun (r : Int32) (w : va_W) => Ty κ tys B w ∧ Sm [] [69] κ ws w) (fun w t => cPost (dC, dI) tys w (va_A ws sz) t) (va_A ws sz)) 0 0 (va_A ws sz) := by
  refine Met.ofW (cc := cX12_round) (maxL := 7) (ret := (some .int)) (by decide) rfl ?_
  intro p e s m args below meth c s₁ B0 hml hv
  obtain ⟨rfl, hsz, hP, hK, hD0, hE⟩ := hv
  have hx := B0.exec
  have hb := B0.bytes
  have hr := B0.returns
  have hts0 := atoms_spec (ws := ws_u yX12_round cX12_round 7 (some .int)) B0.pre
  have hts : ∀ w ∈ gT, w.before _ s = true := fun w h => hts0 w (List.mem_cons_of_mem _ h)
  have hown : s.vm.findClass RX12 = some m.cls := findClass_of_methodNamed B0.named
  have hlocks := B0.notSynchronized
  subst hsz
  have hD := hD0.self (sz := s.heap.size)
  generalize hAe : va_A ws s.heap.size = A at hD ⊢
  have hA : ∀ q : Nat, s.heap.size ≤ q → A q := fun q h => by rw [← hAe]; exact Or.inr h
  have hw : tW (dC, dI) tys κ B A s ws s.heap [] := ⟨hK, hP, hD, va_S.rf, hT⟩
  have hM : Sm [] [69] κ ws ws := Sm.rf
  clear hP hK hD hD0 hts0
  have l_a1 := i32_lo a1
  have h_a1 := i32_hi a1
  have hl := lv_entry ([.ref a0, .int a1]) (n := 7) (Nat.le_of_ble_eq_true rfl)
  rw [lg_entry_eq]
  generalize (lg_sl ([.ref a0, .int a1]) ++ List.replicate (7 - (lg_sl ([.ref a0, .int a1])).length) Slot.unset).toArray = ls at hl ⊢
  have hl : lv_has ls 7 [(0, .ref a0), (1, .int a1)] := hl
  refine t_start (fun QQ hQ => ?_)
  refine lv_aload_n hx hb dX12_round_0 rfl (lv_at hl 0 rfl) ?_
  refine t_calli (va_runV (As := []) (rest := []) ⟨hx, hb, hml, hown, hts⟩ (t_X12_isChoir l dC dI tys κ B ws hw.2.2.2.2 a0 k_a0 s.heap.size) (cwV 0 hts (gUV tw_1489 tw_1491 ts_5_12 tw_13 tw_1492) rfl rfl rfl (by decide +kernel) ⟨(Nat.le_of_ble_eq_true rfl), (Nat.le_of_ble_eq_true rfl)⟩) ⟨cPre.blind, t_recv hw (ci := 12) k_a0 rfl rfl, cPre.use hw.2.1 hw.1 hw.2.2.1 hE⟩ rfl rfl hl.1 rfl (lv_room (Nat.le_of_ble_eq_true rfl)) dX12_round_1 ⟨(Nat.le_of_ble_eq_true rfl), (Nat.le_of_ble_eq_true rfl)⟩) hw hA (fun _ _ h => h.2.2.1) (fun v1 w_1 H locs hp hw => ?_)
  obtain ⟨l_v1, h_v1, _, hm⟩ := hp
  have hM := hM.trans hm (by decide) (by decide)
  refine lv_if_eq (tgt := 19) hx hb dX12_round_4 (by decide) (fun c_4 => ?_) (fun c_4 => ?_)
  · simp only [fa_lt, fa_le, fa_eq, li_0] at c_4
    refine lv_iconst (v := (-1)) hx hb dX12_round_19 (by decide) ?_
    rw [hQ]
    refine W.widen (k := 0) (n := 0) (Nat.le_refl _) (Nat.le_refl _) ?_
    exact W.iret (v := (-1)) hx hb hr (fun t ht hW => ⟨⟨(-1), w_1, rfl, ⟨hw.2.2.2.2, hM⟩, by rw [ht]; exact hw.2.1, va_K.moved hW.alike hw.1, hw.2.2.1⟩, hw.2.2.2.1.F ht⟩) hw.2.2.2.1.2.2 dX12_round_20
  · simp only [fa_lt, fa_le, fa_eq, li_0] at c_4
    refine lv_iload_n hx hb dX12_round_7 rfl (lv_at hl 1 rfl) ?_
    refine lv_i2l hx hb dX12_round_8 rfl ?_
    refine lv_topl (fun v8 e_v8 => ?_)
    have t_v8 : v8.toInt = a1.toInt := by rw [e_v8, Int32.toInt_toInt64]
    refine lv_lconst (v := 0) hx hb dX12_round_9 (by decide) ?_
    obtain ⟨v9, e_v9⟩ : ∃ y : Int64, y = 0 := ⟨_, rfl⟩
    refine W.eq (g2 := F0 m 10 ls [.long v9, .long v8]) (by rw [e_v9]) ?_
    have t_v9 : v9.toInt = 0 := by rw [e_v9]; decide
    refine lv_ldc2 (v := 2) hx hb hown (hts _ tw_1597) dX12_round_10 ?_
    refine lv_topl (fun v10 e_v10 => ?_)
    have t_v10 : v10.toInt = 2 := by rw [e_v10]; decide
    refine t_calli (va_runS (As := [.long v8, .long v9, .long v10]) (rest := []) ⟨hx, hb, hml, hown, hts⟩ (t_X12_in l dC dI tys κ B w_1 hw.2.2.2.2 v8 v9 v10 H.size) (va_cwS 3 hts (gUS tw_1316 tw_1317 tw_13 tw_1318) rfl rfl rfl (by decide +kernel) ⟨(Nat.le_of_ble_eq_true rfl), (Nat.le_of_ble_eq_true rfl)⟩) ⟨cPre.blind, cPre.use hw.2.1 hw.1 hw.2.2.1 hE⟩ rfl rfl hl.1 rfl (lv_room (Nat.le_of_ble_eq_true rfl)) dX12_round_13 ⟨(Nat.le_of_ble_eq_true rfl), (Nat.le_of_ble_eq_true rfl)⟩) hw hA (fun _ _ h => h.2.2.1) (fun v13 w_2 H locs hp hw => ?_)
    obtain ⟨l_v13, h_v13, _, hm, x_v13_0⟩ := hp
    have hM := hM.trans hm (by decide) (by decide)
    refine lv_if_ne (tgt := 21) hx hb dX12_round_16 (by decide) (fun c_16 => ?_) (fun c_16 => ?_)
    · simp only [fa_lt, fa_le, fa_eq, li_0] at c_16
      refine lv_aload_n hx hb dX12_round_21 rfl (lv_at hl 0 rfl) ?_
      refine t_calli (va_runV (As := []) (rest := []) ⟨hx, hb, hml, hown, hts⟩ (t_X12_isSnow l dC dI tys κ B w_2 hw.2.2.2.2 a0 k_a0 H.size) (cwV 0 hts (gUV tw_1556 tw_1558 ts_6_12 tw_13 tw_1559) rfl rfl rfl (by decide +kernel) ⟨(Nat.le_of_ble_eq_true rfl), (Nat.le_of_ble_eq_true rfl)⟩) ⟨cPre.blind, t_recv hw (ci := 12) k_a0 rfl rfl, cPre.use hw.2.1 hw.1 hw.2.2.1 hE⟩ rfl rfl hl.1 rfl (lv_room (Nat.le_of_ble_eq_true rfl)) dX12_round_22 ⟨(Nat.le_of_ble_eq_true rfl), (Nat.le_of_ble_eq_true rfl)⟩) hw hA (fun _ _ h => h.2.2.1) (fun v22 w_3 H locs hp hw => ?_)
      obtain ⟨l_v22, h_v22, _, hm⟩ := hp
      have hM := hM.trans hm (by decide) (by decide)
      have J45 : ∀ (H : Heap) (locs : List Loc) (ls : Array Slot) (w45 : va_W) (p45_s0 : Int32), tW (dC, dI) tys κ B A s w45 H locs → Sm [] [69] κ ws w45 → (-2147483648) ≤ p45_s0.toInt → p45_s0.toInt ≤ 2147483647 → lv_has ls 7 [(0, .ref a0), (1, .int a1)] → W p l e (headSpec (ws_u yX12_round cX12_round 7 (some .int)) ({ frames := 3, cells := 0, slots := 0, locals := 72 })).room s m ([.ref a0, .int a1] : List Value).toArray below meth c H locs 0 0 QQ (F0 m 45 ls [.int p45_s0]) := by
        intro H locs ls w45 p45_s0 hw hM l_p45_s0 h_p45_s0 hl
        refine lv_istore_n (lv' := [(2, .int p45_s0), (0, .ref a0), (1, .int a1)]) hx hb dX12_round_45 rfl hl (by decide) rfl (fun ls hl => ?_)
        refine lv_iconst (v := 0) hx hb dX12_round_46 (by decide) ?_
        refine lv_istore_n (lv' := [(3, .int 0), (2, .int p45_s0), (0, .ref a0), (1, .int a1)]) hx hb dX12_round_47 rfl hl (by decide) rfl (fun ls hl => ?_)
        refine lv_iconst (v := 0) hx hb dX12_round_48 (by decide) ?_
        refine lv_istore (lv' := [(4, .int 0), (3, .int 0), (2, .int p45_s0), (0, .ref a0), (1, .int a1)]) hx hb dX12_round_49 hl (by decide) rfl (fun ls hl => ?_)
        refine lv_iconst (v := 0) hx hb dX12_round_51 (by decide) ?_
        refine lv_istore (lv' := [(5, .int 0), (4, .int 0), (3, .int 0), (2, .int p45_s0), (0, .ref a0), (1, .int a1)]) hx hb dX12_round_52 hl (by decide) rfl (fun ls hl => ?_)
        have J54 : ∀ (n : Nat) (H : Heap) (locs : List Loc) (ls : Array Slot), (∃ (w54 : va_W) (p54_l3 : Int32) (p54_l4 : Int32) (p54_l5 : Int32), tW (dC, dI) tys κ B A s w54 H locs ∧ Sm [] [69] κ ws w54 ∧ 0 ≤ p54_l3.toInt ∧ p54_l3.toInt ≤ 63 ∧ (-2147483648) ≤ p54_l4.toInt ∧ p54_l4.toInt ≤ 1000 ∧ 0 ≤ p54_l5.toInt ∧ p54_l5.toInt ≤ 64 ∧ lv_has ls 7 [(0, .ref a0), (1, .int a1), (2, .int p45_s0), (3, .int p54_l3), (4, .int p54_l4), (5, .int p54_l5)] ∧ (64 - p54_l5.toInt).toNat = n) → W p l e (headSpec (ws_u yX12_round cX12_round 7 (some .int)) ({ frames := 3, cells := 0, slots := 0, locals := 72 })).room s m ([.ref a0, .int a1] : List Value).toArray below meth c H locs 0 0 QQ (F0 m 54 ls []) := by
          refine loopT _ ?_
          intro n_54 H locs ls hI ih_54
          obtain ⟨w54, p54_l3, p54_l4, p54_l5, hw, hM, l_p54_l3, h_p54_l3, l_p54_l4, h_p54_l4, l_p54_l5, h_p54_l5, hl, hn_54⟩ := hI
          refine lv_iload hx hb dX12_round_54 (lv_at hl 5 rfl) ?_
          refine lv_iconst (v := 1) hx hb dX12_round_56 (by decide) ?_
          refine lv_aload_n hx hb dX12_round_57 rfl (lv_at hl 0 rfl) ?_
          refine t_getr (k1 := 63) (ci := 12) (C := RX12) (T := TX12) (N := 38) hx hb hts iX12 hown hw k_a0 rfl rfl rfl 20 (by decide) (hts _ tw_1145) (fun _ h9 => h9) dX12_round_58 rfl (fun v58 k_v58 f_a0_X12_20 => ?_)
          refine lv_iconst (v := 5) hx hb dX12_round_61 (by decide) ?_
          refine t_iald hx hb hw k_v58 rfl rfl (by decide) (by decide) dX12_round_62 (fun v62 r_v62 s_v62 f_v58_M_said_5 => ?_)
          have l_v62 : 0 ≤ v62.toInt := by rw [iv_63_5] at r_v62; exact r_v62
          have h_v62 : v62.toInt ≤ 6 := by rw [iv_63_5] at s_v62; exact s_v62
          refine lv_ishl hx hb dX12_round_63 ?_
          refine lv_topi (fun v63 e_v63 => ?_)
          have ⟨l_v63, h_v63⟩ := sh_i e_v63 (by omega) (by omega)
          refine lv_icmp_ge (tgt := 132) hx hb dX12_round_64 (by decide) (fun c_64 => ?_) (fun c_64 => ?_)
          · simp only [fa_lt, fa_le, fa_eq] at c_64
            refine lv_iload_n hx hb dX12_round_132 rfl (lv_at hl 1 rfl) ?_
            refine lv_if_ne (tgt := 144) hx hb dX12_round_133 (by decide) (fun c_133 => ?_) (fun c_133 => ?_)
            · simp only [fa_lt, fa_le, fa_eq, li_0] at c_133
              refine lv_iload_n hx hb dX12_round_144 rfl (lv_at hl 1 rfl) ?_
              refine lv_iconst (v := 1) hx hb dX12_round_145 (by decide) ?_
              refine lv_icmp_ne (tgt := 153) hx hb dX12_round_146 (by decide) (fun c_146 => ?_) (fun c_146 => ?_)
              · simp only [fa_lt, fa_le, fa_eq, li_1] at c_146
                refine lv_iload hx hb dX12_round_153 (lv_at hl 4 rfl) ?_
                rw [hQ]
                refine W.widen (k := 0) (n := 0) (Nat.le_refl _) (Nat.le_refl _) ?_
                exact W.iret (v := p54_l4) hx hb hr (fun t ht hW => ⟨⟨p54_l4, w54, rfl, ⟨hw.2.2.2.2, hM⟩, by rw [ht]; exact hw.2.1, va_K.moved hW.alike hw.1, hw.2.2.1⟩, hw.2.2.2.1.F ht⟩) hw.2.2.2.1.2.2 dX12_round_155
              · simp only [fa_lt, fa_le, fa_eq, li_1] at c_146
                refine lv_iload_n hx hb dX12_round_149 rfl (lv_at hl 3 rfl) ?_
                refine lv_goto (tgt := 155) hx hb dX12_round_150 (by decide) ?_
                rw [hQ]
                refine W.widen (k := 0) (n := 0) (Nat.le_refl _) (Nat.le_refl _) ?_
                exact W.iret (v := p54_l3) hx hb hr (fun t ht hW => ⟨⟨p54_l3, w54, rfl, ⟨hw.2.2.2.2, hM⟩, by rw [ht]; exact hw.2.1, va_K.moved hW.alike hw.1, hw.2.2.1⟩, hw.2.2.2.1.F ht⟩) hw.2.2.2.1.2.2 dX12_round_155
            · simp only [fa_lt, fa_le, fa_eq, li_0] at c_133
              refine lv_aload_n hx hb dX12_round_136 rfl (lv_at hl 0 rfl) ?_
              refine lv_iload_n hx hb dX12_round_137 rfl (lv_at hl 3 rfl) ?_
              refine t_calli (va_runV (As := [.int p54_l3]) (rest := []) ⟨hx, hb, hml, hown, hts⟩ (t_X12_laidIn l dC dI tys κ B w54 hw.2.2.2.2 a0 k_a0 p54_l3 (by omega) (by omega) H.size) (cwV 1 hts (gUV tw_1684 tw_1686 ts_7_14 tw_13 tw_1687) rfl rfl rfl (by decide +kernel) ⟨(Nat.le_of_ble_eq_true rfl), (Nat.le_of_ble_eq_true rfl)⟩) ⟨cPre.blind, t_recv hw (ci := 12) k_a0 rfl rfl, cPre.use hw.2.1 hw.1 hw.2.2.1 hE⟩ rfl rfl hl.1 rfl (lv_room (Nat.le_of_ble_eq_true rfl)) dX12_round_138 ⟨(Nat.le_of_ble_eq_true rfl), (Nat.le_of_ble_eq_true rfl)⟩) hw hA (fun _ _ h => h.1) (fun v138 w_4 H locs hp hw => ?_)
              obtain ⟨_, hm⟩ := hp
              have l_v138 := i32_lo v138
              have h_v138 := i32_hi v138
              have hM := hM.trans hm (by decide) (by decide)
              have f_a0_X12_20 := hm.1 _ _ _ _ f_a0_X12_20 (by decide)
              have f_v58_M_said_5 := hm.elt k_v58 (by decide) f_v58_M_said_5
              refine lv_goto (tgt := 155) hx hb dX12_round_141 (by decide) ?_
              rw [hQ]
              refine W.widen (k := 0) (n := 0) (Nat.le_refl _) (Nat.le_refl _) ?_
              exact W.iret (v := v138) hx hb hr (fun t ht hW => ⟨⟨v138, w_4, rfl, ⟨hw.2.2.2.2, hM⟩, by rw [ht]; exact hw.2.1, va_K.moved hW.alike hw.1, hw.2.2.1⟩, hw.2.2.2.1.F ht⟩) hw.2.2.2.1.2.2 dX12_round_155
          · simp only [fa_lt, fa_le, fa_eq] at c_64
            refine lv_aload_n hx hb dX12_round_67 rfl (lv_at hl 0 rfl) ?_
            refine lv_iload hx hb dX12_round_68 (lv_at hl 5 rfl) ?_
            refine t_calli (va_runV (As := [.int p54_l5]) (rest := []) ⟨hx, hb, hml, hown, hts⟩ (t_X12_hoursOf l dC dI tys κ B w54 hw.2.2.2.2 a0 k_a0 p54_l5 (by omega) (by omega) H.size) (cwV 1 hts (gUV tw_1676 tw_1678 ts_7_12 tw_13 tw_1679) rfl rfl rfl (by decide +kernel) ⟨(Nat.le_of_ble_eq_true rfl), (Nat.le_of_ble_eq_true rfl)⟩) ⟨cPre.blind, t_recv hw (ci := 12) k_a0 rfl rfl, cPre.use hw.2.1 hw.1 hw.2.2.1 hE⟩ rfl rfl hl.1 rfl (lv_room (Nat.le_of_ble_eq_true rfl)) dX12_round_70 ⟨(Nat.le_of_ble_eq_true rfl), (Nat.le_of_ble_eq_true rfl)⟩) hw hA (fun _ _ h => h.2.2.1) (fun v70 w_5 H locs hp hw => ?_)
            obtain ⟨l_v70, h_v70, _, hm⟩ := hp
            have hM := hM.trans hm (by decide) (by decide)
            have f_a0_X12_20 := hm.1 _ _ _ _ f_a0_X12_20 (by decide)
            have f_v58_M_said_5 := hm.elt k_v58 (by decide) f_v58_M_said_5
            refine lv_istore (lv' := [(6, .int v70), (0, .ref a0), (1, .int a1), (2, .int p45_s0), (3, .int p54_l3), (4, .int p54_l4), (5, .int p54_l5)]) hx hb dX12_round_73 hl (by decide) rfl (fun ls hl => ?_)
            refine lv_iload hx hb dX12_round_75 (lv_at hl 0 rfl) ?_
            refine lv_iload_n hx hb dX12_round_77 rfl (lv_at hl 3 rfl) ?_
            have J126 : ∀ (H : Heap) (locs : List Loc) (ls : Array Slot) (w126 : va_W) (p126_l3 : Int32) (p126_l4 : Int32), tW (dC, dI) tys κ B A s w126 H locs → Sm [] [69] κ ws w126 → 0 ≤ p126_l3.toInt → p126_l3.toInt ≤ 63 → (-2147483648) ≤ p126_l4.toInt → p126_l4.toInt ≤ 1000 → fld w126 a0 12 20 (.ref v58) → elt w126 v58 (5 : Int32).toInt.toNat v62 → lv_has ls 7 [(0, .ref a0), (1, .int a1), (2, .int p45_s0), (3, .int p126_l3), (4, .int p126_l4), (5, .int p54_l5), (6, .int v70)] → W p l e (headSpec (ws_u yX12_round cX12_round 7 (some .int)) ({ frames := 3, cells := 0, slots := 0, locals := 72 })).room s m ([.ref a0, .int a1] : List Value).toArray below meth c H locs 0 0 QQ (F0 m 126 ls []) := by
              intro H locs ls w126 p126_l3 p126_l4 hw hM l_p126_l3 h_p126_l3 l_p126_l4 h_p126_l4 f_a0_X12_20 f_v58_M_said_5 hl
              obtain ⟨v126, e_v126⟩ : ∃ y : Int32, y = p54_l5 + 1 := ⟨_, rfl⟩
              refine lv_iinc (v := v126) (lv' := [(5, .int v126), (0, .ref a0), (1, .int a1), (2, .int p45_s0), (3, .int p126_l3), (4, .int p126_l4), (6, .int v70)]) hx hb dX12_round_126 hl (k := 5) rfl e_v126.symm (by decide) rfl (fun ls hl => ?_)
              have e_v126 : v126.toInt = p54_l5.toInt + 1 := ad_i e_v126 rfl li_1 (by omega) (by omega)
              refine lv_goto (tgt := 54) hx hb dX12_round_129 (by decide) ?_
              exact ih_54 _ _ _ _ (by omega) ⟨w126, p126_l3, p126_l4, v126, hw, hM, (by omega), (by omega), (by omega), (by omega), (by omega), (by omega), (lv_sub hl [1, 2, 3, 4, 5, 0] rfl), rfl⟩
            refine lv_icmp_gt (tgt := 126) hx hb dX12_round_78 (by decide) (fun c_78 => ?_) (fun c_78 => ?_)
            · simp only [fa_lt, fa_le, fa_eq] at c_78
              exact J126 _ _ _ w_5 p54_l3 p54_l4 hw hM (by omega) (by omega) (by omega) (by omega) f_a0_X12_20 f_v58_M_said_5 (lv_sub hl [1, 2, 3, 4, 5, 6, 0] rfl)
            · simp only [fa_lt, fa_le, fa_eq] at c_78
              refine lv_aload_n hx hb dX12_round_81 rfl (lv_at hl 1 rfl) ?_
              refine lv_iload hx hb dX12_round_82 (lv_at hl 6 rfl) ?_
              refine t_calli (va_runV (As := [.int p54_l5]) (rest := []) ⟨hx, hb, hml, hown, hts⟩ (t_X12_laidIn l dC dI tys κ B w_5 hw.2.2.2.2 a0 k_a0 p54_l5 (by omega) (by omega) H.size) (cwV 1 hts (gUV tw_1684 tw_1686 ts_7_14 tw_13 tw_1687) rfl rfl rfl (by decide +kernel) ⟨(Nat.le_of_ble_eq_true rfl), (Nat.le_of_ble_eq_true rfl)⟩) ⟨cPre.blind, t_recv hw (ci := 12) k_a0 rfl rfl, cPre.use hw.2.1 hw.1 hw.2.2.1 hE⟩ rfl rfl hl.1 rfl (lv_room (Nat.le_of_ble_eq_true rfl)) dX12_round_84 ⟨(Nat.le_of_ble_eq_true rfl), (Nat.le_of_ble_eq_true rfl)⟩) hw hA (fun _ _ h => h.1) (fun v84 w_6 H locs hp hw => ?_)
              obtain ⟨_, hm⟩ := hp
              have l_v84 := i32_lo v84
              have h_v84 := i32_hi v84
              have hM := hM.trans hm (by decide) (by decide)
              have f_a0_X12_20 := hm.1 _ _ _ _ f_a0_X12_20 (by decide)
              have f_v58_M_said_5 := hm.elt k_v58 (by decide) f_v58_M_said_5
              refine lv_aload_n hx hb dX12_round_87 rfl (lv_at hl 1 rfl) ?_
              refine lv_iload_n hx hb dX12_round_88 rfl (lv_at hl 4 rfl) ?_
              refine t_calli (va_runV (As := [.int p54_l3]) (rest := [.int v84]) ⟨hx, hb, hml, hown, hts⟩ (t_X12_laidIn l dC dI tys κ B w_6 hw.2.2.2.2 a0 k_a0 p54_l3 (by omega) (by omega) H.size) (cwV 1 hts (gUV tw_1684 tw_1686 ts_7_14 tw_13 tw_1687) rfl rfl rfl (by decide +kernel) ⟨(Nat.le_of_ble_eq_true rfl), (Nat.le_of_ble_eq_true rfl)⟩) ⟨cPre.blind, t_recv hw (ci := 12) k_a0 rfl rfl, cPre.use hw.2.1 hw.1 hw.2.2.1 hE⟩ rfl rfl hl.1 rfl (lv_room (Nat.le_of_ble_eq_true rfl)) dX12_round_89 ⟨(Nat.le_of_ble_eq_true rfl), (Nat.le_of_ble_eq_true rfl)⟩) hw hA (fun _ _ h => h.1) (fun v89 w_7 H locs hp hw => ?_)
              obtain ⟨_, hm⟩ := hp
              have l_v89 := i32_lo v89
              have h_v89 := i32_hi v89
              have hM := hM.trans hm (by decide) (by decide)
              have f_a0_X12_20 := hm.1 _ _ _ _ f_a0_X12_20 (by decide)
              have f_v58_M_said_5 := hm.elt k_v58 (by decide) f_v58_M_said_5
              refine lv_icmp_lt (tgt := 126) hx hb dX12_round_92 (by decide) (fun c_92 => ?_) (fun c_92 => ?_)
              · simp only [fa_lt, fa_le, fa_eq] at c_92
                exact J126 _ _ _ w_7 p54_l3 p54_l4 hw hM (by omega) (by omega) (by omega) (by omega) f_a0_X12_20 f_v58_M_said_5 (lv_sub hl [1, 2, 3, 4, 5, 6, 0] rfl)
              · simp only [fa_lt, fa_le, fa_eq] at c_92
                refine lv_aload_n hx hb dX12_round_95 rfl (lv_at hl 1 rfl) ?_
                refine lv_iload hx hb dX12_round_96 (lv_at hl 6 rfl) ?_
                refine t_calli (va_runV (As := [.int p54_l5]) (rest := []) ⟨hx, hb, hml, hown, hts⟩ (t_X12_laidIn l dC dI tys κ B w_7 hw.2.2.2.2 a0 k_a0 p54_l5 (by omega) (by omega) H.size) (cwV 1 hts (gUV tw_1684 tw_1686 ts_7_14 tw_13 tw_1687) rfl rfl rfl (by decide +kernel) ⟨(Nat.le_of_ble_eq_true rfl), (Nat.le_of_ble_eq_true rfl)⟩) ⟨cPre.blind, t_recv hw (ci := 12) k_a0 rfl rfl, cPre.use hw.2.1 hw.1 hw.2.2.1 hE⟩ rfl rfl hl.1 rfl (lv_room (Nat.le_of_ble_eq_true rfl)) dX12_round_98 ⟨(Nat.le_of_ble_eq_true rfl), (Nat.le_of_ble_eq_true rfl)⟩) hw hA (fun _ _ h => h.1) (fun v98 w_8 H locs hp hw => ?_)
                obtain ⟨_, hm⟩ := hp
                have l_v98 := i32_lo v98
                have h_v98 := i32_hi v98
                have hM := hM.trans hm (by decide) (by decide)
                have f_a0_X12_20 := hm.1 _ _ _ _ f_a0_X12_20 (by decide)
                have f_v58_M_said_5 := hm.elt k_v58 (by decide) f_v58_M_said_5
                refine lv_aload_n hx hb dX12_round_101 rfl (lv_at hl 1 rfl) ?_
                refine lv_iload_n hx hb dX12_round_102 rfl (lv_at hl 4 rfl) ?_
                refine t_calli (va_runV (As := [.int p54_l3]) (rest := [.int v98]) ⟨hx, hb, hml, hown, hts⟩ (t_X12_laidIn l dC dI tys κ B w_8 hw.2.2.2.2 a0 k_a0 p54_l3 (by omega) (by omega) H.size) (cwV 1 hts (gUV tw_1684 tw_1686 ts_7_14 tw_13 tw_1687) rfl rfl rfl (by decide +kernel) ⟨(Nat.le_of_ble_eq_true rfl), (Nat.le_of_ble_eq_true rfl)⟩) ⟨cPre.blind, t_recv hw (ci := 12) k_a0 rfl rfl, cPre.use hw.2.1 hw.1 hw.2.2.1 hE⟩ rfl rfl hl.1 rfl (lv_room (Nat.le_of_ble_eq_true rfl)) dX12_round_103 ⟨(Nat.le_of_ble_eq_true rfl), (Nat.le_of_ble_eq_true rfl)⟩) hw hA (fun _ _ h => h.1) (fun v103 w_9 H locs hp hw => ?_)
                obtain ⟨_, hm⟩ := hp
                have l_v103 := i32_lo v103
                have h_v103 := i32_hi v103
                have hM := hM.trans hm (by decide) (by decide)
                have f_a0_X12_20 := hm.1 _ _ _ _ f_a0_X12_20 (by decide)
                have f_v58_M_said_5 := hm.elt k_v58 (by decide) f_v58_M_said_5
                have J119 : ∀ (H : Heap) (locs : List Loc) (ls : Array Slot) (w119 : va_W), tW (dC, dI) tys κ B A s w119 H locs → Sm [] [69] κ ws w119 → fld w119 a0 12 20 (.ref v58) → elt w119 v58 (5 : Int32).toInt.toNat v62 → lv_has ls 7 [(0, .ref a0), (1, .int a1), (2, .int p45_s0), (3, .int p54_l3), (4, .int p54_l4), (5, .int p54_l5), (6, .int v70)] → W p l e (headSpec (ws_u yX12_round cX12_round 7 (some .int)) ({ frames := 3, cells := 0, slots := 0, locals := 72 })).room s m ([.ref a0, .int a1] : List Value).toArray below meth c H locs 0 0 QQ (F0 m 119 ls []) := by
                  intro H locs ls w119 hw hM f_a0_X12_20 f_v58_M_said_5 hl
                  refine lv_iload hx hb dX12_round_119 (lv_at hl 5 rfl) ?_
                  refine lv_istore_n (lv' := [(3, .int p54_l5), (0, .ref a0), (1, .int a1), (2, .int p45_s0), (4, .int p54_l4), (5, .int p54_l5), (6, .int v70)]) hx hb dX12_round_121 rfl hl (by decide) rfl (fun ls hl => ?_)
                  refine lv_iload hx hb dX12_round_122 (lv_at hl 6 rfl) ?_
                  refine lv_istore (lv' := [(4, .int v70), (3, .int p54_l5), (0, .ref a0), (1, .int a1), (2, .int p45_s0), (5, .int p54_l5), (6, .int v70)]) hx hb dX12_round_124 hl (by decide) rfl (fun ls hl => ?_)
                  exact J126 _ _ _ w119 p54_l5 v70 hw hM (by omega) (by omega) (by omega) (by omega) f_a0_X12_20 f_v58_M_said_5 (lv_sub hl [2, 3, 4, 1, 0, 5, 6] rfl)
                refine lv_icmp_ne (tgt := 119) hx hb dX12_round_106 (by decide) (fun c_106 => ?_) (fun c_106 => ?_)
                · simp only [fa_lt, fa_le, fa_eq] at c_106
                  exact J119 _ _ _ w_9 hw hM f_a0_X12_20 f_v58_M_said_5 (lv_sub hl [1, 2, 3, 4, 5, 6, 0] rfl)
                · simp only [fa_lt, fa_le, fa_eq] at c_106
                  refine lv_iload hx hb dX12_round_109 (lv_at hl 0 rfl) ?_
                  refine lv_iload hx hb dX12_round_111 (lv_at hl 5 rfl) ?_
                  refine lv_icmp_lt (tgt := 119) hx hb dX12_round_113 (by decide) (fun c_113 => ?_) (fun c_113 => ?_)
                  · simp only [fa_lt, fa_le, fa_eq] at c_113
                    exact J119 _ _ _ w_9 hw hM f_a0_X12_20 f_v58_M_said_5 (lv_sub hl [1, 2, 3, 4, 5, 6, 0] rfl)
                  · simp only [fa_lt, fa_le, fa_eq] at c_113
                    refine lv_goto (tgt := 126) hx hb dX12_round_116 (by decide) ?_
                    exact J126 _ _ _ w_9 p54_l3 p54_l4 hw hM (by omega) (by omega) (by omega) (by omega) f_a0_X12_20 f_v58_M_said_5 (lv_sub hl [1, 2, 3, 4, 5, 6, 0] rfl)
        exact J54 _ _ _ _ ⟨w45, 0, 0, 0, hw, hM, (by decide), (by decide), (by decide), (by decide), (by decide), (by decide), (lv_sub hl [4, 5, 3, 2, 1, 0] rfl), rfl⟩
      refine lv_if_eq (tgt := 39) hx hb dX12_round_25 (by decide) (fun c_25 => ?_) (fun c_25 => ?_)
      · simp only [fa_lt, fa_le, fa_eq, li_0] at c_25
        refine lv_aload_n hx hb dX12_round_39 rfl (lv_at hl 0 rfl) ?_
        refine t_getr (k1 := 63) (ci := 12) (C := RX12) (T := TX12) (N := 38) hx hb hts iX12 hown hw k_a0 rfl rfl rfl 20 (by decide) (hts _ tw_1145) (fun _ h9 => h9) dX12_round_40 rfl (fun v40 k_v40 f_a0_X12_20 => ?_)
        refine lv_iconst (v := 2) hx hb dX12_round_43 (by decide) ?_
        refine t_iald hx hb hw k_v40 rfl rfl (by decide) (by decide) dX12_round_44 (fun v44 r_v44 s_v44 f_v40_M_said_2 => ?_)
        have l_v44 := i32_lo v44
        have h_v44 := i32_hi v44
        exact J45 _ _ _ w_3 v44 hw hM (by omega) (by omega) (lv_sub hl [0, 1] rfl)
      · simp only [fa_lt, fa_le, fa_eq, li_0] at c_25
        refine lv_aload_n hx hb dX12_round_28 rfl (lv_at hl 0 rfl) ?_
        refine t_getr (k1 := 63) (ci := 12) (C := RX12) (T := TX12) (N := 38) hx hb hts iX12 hown hw k_a0 rfl rfl rfl 20 (by decide) (hts _ tw_1145) (fun _ h9 => h9) dX12_round_29 rfl (fun v29 k_v29 f_a0_X12_20 => ?_)
        refine lv_iconst (v := 2) hx hb dX12_round_32 (by decide) ?_
        refine t_iald hx hb hw k_v29 rfl rfl (by decide) (by decide) dX12_round_33 (fun v33 r_v33 s_v33 f_v29_M_said_2 => ?_)
        have l_v33 := i32_lo v33
        have h_v33 := i32_hi v33
        refine lv_iconst (v := 2) hx hb dX12_round_34 (by decide) ?_
        refine lv_idiv hx hb dX12_round_35 (ne_i li_2 (by decide)) ?_
        refine lv_topi (fun v35 e_v35 => ?_)
        have l_v35 := i32_lo v35
        have h_v35 := i32_hi v35
        refine lv_goto (tgt := 45) hx hb dX12_round_36 (by decide) ?_
        exact J45 _ _ _ w_3 v35 hw hM (by omega) (by omega) (lv_sub hl [0, 1] rfl)
    · simp only [fa_lt, fa_le, fa_eq, li_0] at c_16
      refine lv_iconst (v := (-1)) hx hb dX12_round_19 (by decide) ?_
      rw [hQ]
      refine W.widen (k := 0) (n := 0) (Nat.le_refl _) (Nat.le_refl _) ?_
      exact W.iret (v := (-1)) hx hb hr (fun t ht hW => ⟨⟨(-1), w_2, rfl, ⟨hw.2.2.2.2, hM⟩, by rw [ht]; exact hw.2.1, va_K.moved hW.alike hw.1, hw.2.2.1⟩, hw.2.2.2.1.F ht⟩) hw.2.2.2.1.2.2 dX12_round_20
set_option maxHeartbeats 4000000 in
set_option maxRecDepth 100000 in
theorem t_X12_seed (l : Launch) (dC : Nat → ClassId) (dI : Nat → Nat → Nat) (tys : List (ClassId × FieldType)) (κ : tK) (B : Nat) (ws : va_W) (hT : Ty κ tys B ws) (a0 : Nat) (k_a0 : κ a0 = some 12) (a1 : Int32) (sz : Nat) : Met l yX12_seed (ws_u yX12_seed cX12_seed 3 (some .int)) ({ frames := 0, cells := 0, slots := 0, locals := 0 }) (va_Pc [.ref a0, .int a1] (cPre (dC, dI) tys ws sz)) (va_Qi (fun (r : Int32) (w : va_W) => Ty κ tys B w ∧ Sm [(12, 22)] [] κ ws w) (fun w t => cPost (dC, dI) tys w (va_A ws sz) t) (va_A ws sz)) 0 0 (va_A ws sz) := by
  refine Met.ofW (cc := cX12_seed) (maxL := 3) (ret := (some .int)) (by decide) rfl ?_
  intro p e s m args below meth c s₁ B0 hml hv
  obtain ⟨rfl, hsz, hP, hK, hD0, hE⟩ := hv
  have hx := B0.exec
  have hb := B0.bytes
  have hr := B0.returns
  have hts0 := atoms_spec (ws := ws_u yX12_seed cX12_seed 3 (some .int)) B0.pre
  have hts : ∀ w ∈ gT, w.before _ s = true := fun w h => hts0 w (List.mem_cons_of_mem _ h)
  have hown : s.vm.findClass RX12 = some m.cls := findClass_of_methodNamed B0.named
  have hlocks := B0.notSynchronized
  subst hsz
  have hD := hD0.self (sz := s.heap.size)
  generalize hAe : va_A ws s.heap.size = A at hD ⊢
  have hA : ∀ q : Nat, s.heap.size ≤ q → A q := fun q h => by rw [← hAe]; exact Or.inr h
  have hw : tW (dC, dI) tys κ B A s ws s.heap [] := ⟨hK, hP, hD, va_S.rf, hT⟩
  have hM : Sm [(12, 22)] [] κ ws ws := Sm.rf
  clear hP hK hD hD0 hts0
  have l_a1 := i32_lo a1
  have h_a1 := i32_hi a1
  have hl := lv_entry ([.ref a0, .int a1]) (n := 3) (Nat.le_of_ble_eq_true rfl)
  rw [lg_entry_eq]
  generalize (lg_sl ([.ref a0, .int a1]) ++ List.replicate (3 - (lg_sl ([.ref a0, .int a1])).length) Slot.unset).toArray = ls at hl ⊢
  have hl : lv_has ls 3 [(0, .ref a0), (1, .int a1)] := hl
  refine t_start (fun QQ hQ => ?_)
  refine lv_iload_n hx hb dX12_seed_0 rfl (lv_at hl 1 rfl) ?_
  refine lv_if_ge (tgt := 6) hx hb dX12_seed_1 (by decide) (fun c_1 => ?_) (fun c_1 => ?_)
  · simp only [fa_lt, fa_le, fa_eq, li_0] at c_1
    refine lv_aload_n hx hb dX12_seed_6 rfl (lv_at hl 0 rfl) ?_
    refine t_geti (ci := 12) (C := RX12) (T := TX12) (N := 38) hx hb hts iX12 hown hw k_a0 rfl rfl rfl 22 (by decide) (hts _ tw_1147) (fun _ h9 => h9) dX12_seed_7 rfl (fun v7 l_v7 h_v7 f_a0_X12_22 => ?_)
    have l_v7 : (-2147483648) ≤ v7.toInt := l_v7
    have h_v7 : v7.toInt ≤ 2147483647 := h_v7
    refine lv_istore_n (lv' := [(2, .int v7), (0, .ref a0), (1, .int a1)]) hx hb dX12_seed_10 rfl hl (by decide) rfl (fun ls hl => ?_)
    refine lv_aload_n hx hb dX12_seed_11 rfl (lv_at hl 1 rfl) ?_
    refine lv_iload_n hx hb dX12_seed_12 rfl (lv_at hl 2 rfl) ?_
    refine t_put (ci := 12) (C := RX12) (T := TX12) (N := 38) (v := .int a1) hx hb hts iX12 tyX12 tyX12_ok nmX12 hown hw k_a0 rfl rfl rfl 22 (by decide) (hts _ tw_1147) (fun _ h9 => h9) rfl (tyX12_ok 22 (by decide)) rfl rfl (okV.int rfl (by omega) (by omega)) dX12_seed_13 (fun w_1 H locs hw u => ?_)
    have hM := hM.up1 u (by decide)
    have f_a0_X12_22 := u.2.2
    refine lv_iload_n hx hb dX12_seed_16 rfl (lv_at hl 0 rfl) ?_
    rw [hQ]
    refine W.widen (k := 0) (n := 0) (Nat.le_refl _) (Nat.le_refl _) ?_
    exact W.iret (v := v7) hx hb hr (fun t ht hW => ⟨⟨v7, w_1, rfl, ⟨hw.2.2.2.2, hM⟩, by rw [ht]; exact hw.2.1, va_K.moved hW.alike hw.1, hw.2.2.1⟩, hw.2.2.2.1.F ht⟩) hw.2.2.2.1.2.2 dX12_seed_17
  · simp only [fa_lt, fa_le, fa_eq, li_0] at c_1
    refine lv_iconst (v := (-1)) hx hb dX12_seed_4 (by decide) ?_
    rw [hQ]
    refine W.widen (k := 0) (n := 0) (Nat.le_refl _) (Nat.le_refl _) ?_
    exact W.iret (v := (-1)) hx hb hr (fun t ht hW => ⟨⟨(-1), ws, rfl, ⟨hw.2.2.2.2, hM⟩, by rw [ht]; exact hw.2.1, va_K.moved hW.alike hw.1, hw.2.2.1⟩, hw.2.2.2.1.F ht⟩) hw.2.2.2.1.2.2 dX12_seed_5
set_option maxHeartbeats 4000000 in
set_option maxRecDepth 100000 in
theorem t_X12_undo (l : Launch) (dC : Nat → ClassId) (dI : Nat → Nat → Nat) (tys : List (ClassId × FieldType)) (κ : tK) (B : Nat) (ws : va_W) (hT : Ty κ tys B ws) (a0 : Nat) (k_a0 : κ a0 = some 12) (f0 : Nat) (k_f0 : κ f0 = some 63) (f_a0_X12_20 : fld ws a0 12 20 (.ref f0)) (f1 : Int32) (l_f1 : 0 ≤ f1.toInt) (h_f1 : f1.toInt ≤ 999) (f_f0_M_said_10 : elt ws f0 (10 : Int32).toInt.toNat f1) (sz : Nat) : Met l yX12_undo (ws_u yX12_undo cX12_undo 2 (some .int)) ({ frames := 0, cells := 0, slots := 0, locals := 0 }) (va_Pc [.ref a0] (cPre (dC, dI) tys ws sz)) (va_Qi (fun (r : Int32) (w : va_W) => (-1) ≤ r.toInt ∧ r.toInt ≤ 19 ∧ Ty κ tys B w ∧ Sm [(12, 26)] [63] κ ws w ∧ (∃ (xd : Int32), 0 ≤ xd.toInt ∧ xd.toInt ≤ 999 ∧ elt w f0 (10 : Int32).toInt.toNat xd)) (fun w t => cPost (dC, dI) tys w (va_A ws sz) t) (va_A ws sz)) 0 0 (va_A ws sz) := by
  refine Met.ofW (cc := cX12_undo) (maxL := 2) (ret := (some .int)) (by decide) rfl ?_
  intro p e s m args below meth c s₁ B0 hml hv
  obtain ⟨rfl, hsz, hP, hK, hD0, hE⟩ := hv
  have hx := B0.exec
  have hb := B0.bytes
  have hr := B0.returns
  have hts0 := atoms_spec (ws := ws_u yX12_undo cX12_undo 2 (some .int)) B0.pre
  have hts : ∀ w ∈ gT, w.before _ s = true := fun w h => hts0 w (List.mem_cons_of_mem _ h)
  have hown : s.vm.findClass RX12 = some m.cls := findClass_of_methodNamed B0.named
  have hlocks := B0.notSynchronized
  subst hsz
  have hD := hD0.self (sz := s.heap.size)
  generalize hAe : va_A ws s.heap.size = A at hD ⊢
  have hA : ∀ q : Nat, s.heap.size ≤ q → A q := fun q h => by rw [← hAe]; exact Or.inr h
  have hw : tW (dC, dI) tys κ B A s ws s.heap [] := ⟨hK, hP, hD, va_S.rf, hT⟩
  have hM : Sm [(12, 26)] [63] κ ws ws := Sm.rf
  clear hP hK hD hD0 hts0
  have hl := lv_entry ([.ref a0]) (n := 2) (Nat.le_of_ble_eq_true rfl)
  rw [lg_entry_eq]
  generalize (lg_sl ([.ref a0]) ++ List.replicate (2 - (lg_sl ([.ref a0])).length) Slot.unset).toArray = ls at hl ⊢
  have hl : lv_has ls 2 [(0, .ref a0)] := hl
  refine t_start (fun QQ hQ => ?_)
  refine lv_aload_n hx hb dX12_undo_0 rfl (lv_at hl 0 rfl) ?_
  refine t_geti (ci := 12) (C := RX12) (T := TX12) (N := 38) hx hb hts iX12 hown hw k_a0 rfl rfl rfl 26 (by decide) (hts _ tw_1151) (fun _ h9 => h9) dX12_undo_1 rfl (fun v1 l_v1 h_v1 f_a0_X12_26 => ?_)
  have l_v1 : 0 ≤ v1.toInt := l_v1
  have h_v1 : v1.toInt ≤ 20 := h_v1
  refine lv_if_ne (tgt := 9) hx hb dX12_undo_4 (by decide) (fun c_4 => ?_) (fun c_4 => ?_)
  · simp only [fa_lt, fa_le, fa_eq, li_0] at c_4
    refine lv_aload_n hx hb dX12_undo_9 rfl (lv_at hl 0 rfl) ?_
    refine lv_dup hx hb dX12_undo_10 rfl ?_
    refine t_getk (ci := 12) (C := RX12) (T := TX12) (N := 38) hx hb hts iX12 hown hw rfl 26 (by decide) (hts _ tw_1151) (fun _ h9 => h9) dX12_undo_11 f_a0_X12_26 ?_
    refine lv_iconst (v := 1) hx hb dX12_undo_14 (by decide) ?_
    refine lv_isub hx hb dX12_undo_15 ?_
    refine lv_topi (fun v15 e_v15 => ?_)
    have e_v15 : v15.toInt = v1.toInt - 1 := sb_i e_v15 rfl li_1 (by omega) (by omega)
    refine t_put (ci := 12) (C := RX12) (T := TX12) (N := 38) (v := .int v15) hx hb hts iX12 tyX12 tyX12_ok nmX12 hown hw k_a0 rfl rfl rfl 26 (by decide) (hts _ tw_1151) (fun _ h9 => h9) rfl (tyX12_ok 26 (by decide)) rfl rfl (okV.int rfl (by omega) (by omega)) dX12_undo_16 (fun w_1 H locs hw u => ?_)
    have hM := hM.up1 u (by decide)
    have f_a0_X12_20 := u.1 _ _ _ _ f_a0_X12_20 (Or.inr (Or.inr (by decide)))
    have f_f0_M_said_10 := u.elt f_f0_M_said_10
    have f_a0_X12_26 := u.2.2
    refine lv_iconst (v := 0) hx hb dX12_undo_19 (by decide) ?_
    refine lv_istore_n (lv' := [(1, .int 0), (0, .ref a0)]) hx hb dX12_undo_20 rfl hl (by decide) rfl (fun ls hl => ?_)
    have J21 : ∀ (n : Nat) (H : Heap) (locs : List Loc) (ls : Array Slot), (∃ (w21 : va_W) (p21_l1 : Int32), tW (dC, dI) tys κ B A s w21 H locs ∧ Sm [(12, 26)] [63] κ ws w21 ∧ 0 ≤ p21_l1.toInt ∧ p21_l1.toInt ≤ 42 ∧ fld w21 a0 12 20 (.ref f0) ∧ fld w21 a0 12 26 (.int v15) ∧ dayOk w21 f0 p21_l1 0 ∧ lv_has ls 2 [(0, .ref a0), (1, .int p21_l1)] ∧ (42 - p21_l1.toInt).toNat = n) → W p l e (headSpec (ws_u yX12_undo cX12_undo 2 (some .int)) ({ frames := 0, cells := 0, slots := 0, locals := 0 })).room s m ([.ref a0] : List Value).toArray below meth c H locs 0 0 QQ (F0 m 21 ls []) := by
      refine loopT _ ?_
      intro n_21 H locs ls hI ih_21
      obtain ⟨w21, p21_l1, hw, hM, l_p21_l1, h_p21_l1, f_a0_X12_20, f_a0_X12_26, li_21_0, hl, hn_21⟩ := hI
      refine lv_iload_n hx hb dX12_undo_21 rfl (lv_at hl 1 rfl) ?_
      refine lv_bipush (v := 42) hx hb dX12_undo_22 (by decide) ?_
      refine lv_icmp_ge (tgt := 56) hx hb dX12_undo_24 (by decide) (fun c_24 => ?_) (fun c_24 => ?_)
      · simp only [fa_lt, fa_le, fa_eq, li_42] at c_24
        refine lv_aload_n hx hb dX12_undo_56 rfl (lv_at hl 0 rfl) ?_
        refine t_getk (ci := 12) (C := RX12) (T := TX12) (N := 38) hx hb hts iX12 hown hw rfl 26 (by decide) (hts _ tw_1151) (fun _ h9 => h9) dX12_undo_57 f_a0_X12_26 ?_
        rw [hQ]
        refine W.widen (k := 0) (n := 0) (Nat.le_refl _) (Nat.le_refl _) ?_
        exact W.iret (v := v15) hx hb hr (fun t ht hW => ⟨⟨v15, w21, rfl, ⟨(by omega), (by omega), hw.2.2.2.2, hM, (by rcases li_21_0 with hy | ⟨d, he, h1, h2⟩; exact absurd hy (by omega); exact ⟨d, h1, h2, he⟩)⟩, by rw [ht]; exact hw.2.1, va_K.moved hW.alike hw.1, hw.2.2.1⟩, hw.2.2.2.1.F ht⟩) hw.2.2.2.1.2.2 dX12_undo_60
      · simp only [fa_lt, fa_le, fa_eq, li_42] at c_24
        refine lv_aload_n hx hb dX12_undo_27 rfl (lv_at hl 0 rfl) ?_
        refine t_getk (ci := 12) (C := RX12) (T := TX12) (N := 38) hx hb hts iX12 hown hw rfl 20 (by decide) (hts _ tw_1145) (fun _ h9 => h9) dX12_undo_28 f_a0_X12_20 ?_
        refine lv_bipush (v := 10) hx hb dX12_undo_31 (by decide) ?_
        refine lv_iload_n hx hb dX12_undo_33 rfl (lv_at hl 1 rfl) ?_
        refine lv_iadd hx hb dX12_undo_34 ?_
        refine lv_topi (fun v34 e_v34 => ?_)
        have e_v34 : v34.toInt = 10 + p21_l1.toInt := ad_i e_v34 li_10 rfl (by omega) (by omega)
        refine lv_aload_n hx hb dX12_undo_35 rfl (lv_at hl 0 rfl) ?_
        refine t_getr (k1 := 65) (ci := 12) (C := RX12) (T := TX12) (N := 38) hx hb hts iX12 hown hw k_a0 rfl rfl rfl 25 (by decide) (hts _ tw_1150) (fun _ h9 => h9) dX12_undo_36 rfl (fun v36 k_v36 f_a0_X12_25 => ?_)
        refine lv_bipush (v := 42) hx hb dX12_undo_39 (by decide) ?_
        refine lv_aload_n hx hb dX12_undo_41 rfl (lv_at hl 0 rfl) ?_
        refine t_getk (ci := 12) (C := RX12) (T := TX12) (N := 38) hx hb hts iX12 hown hw rfl 26 (by decide) (hts _ tw_1151) (fun _ h9 => h9) dX12_undo_42 f_a0_X12_26 ?_
        refine lv_imul hx hb dX12_undo_45 ?_
        refine lv_topi (fun v45 e_v45 => ?_)
        have e_v45 : v45.toInt = 42 * v15.toInt := ml_i e_v45 li_42 rfl (by omega) (by omega)
        refine lv_iload_n hx hb dX12_undo_46 rfl (lv_at hl 1 rfl) ?_
        refine lv_iadd hx hb dX12_undo_47 ?_
        refine lv_topi (fun v47 e_v47 => ?_)
        have e_v47 : v47.toInt = v45.toInt + p21_l1.toInt := ad_i e_v47 rfl rfl (by omega) (by omega)
        refine t_iald hx hb hw k_v36 rfl rfl (by omega) (show v47.toInt < 840 by omega) dX12_undo_48 (fun v48 r_v48 s_v48 q_v48 => ?_)
        have l_v48 := i32_lo v48
        have h_v48 := i32_hi v48
        have hs_v34 : (aiv B 63 v34.toInt.toNat).1 ≤ v48.toInt ∧ v48.toInt ≤ (aiv B 63 v34.toInt.toNat).2 := by
          rw [aiv_was, show v47.toInt.toNat % 42 = p21_l1.toInt.toNat by omega] at r_v48 s_v48
          rw [aiv_said, show v34.toInt.toNat = 10 + p21_l1.toInt.toNat by omega]
          exact ivS_mono r_v48 s_v48
        refine t_iast hx hb hw k_f0 rfl rfl (by omega) (show v34.toInt < 306 by omega) hs_v34.1 hs_v34.2 dX12_undo_49 (fun w_2 H locs hw u => ?_)
        have hM := hM.up3 u k_f0 (by decide)
        have f_a0_X12_20 := u.1 _ _ _ _ f_a0_X12_20
        have f_a0_X12_26 := u.1 _ _ _ _ f_a0_X12_26
        have f_a0_X12_25 := u.1 _ _ _ _ f_a0_X12_25
        obtain ⟨v50, e_v50⟩ : ∃ y : Int32, y = p21_l1 + 1 := ⟨_, rfl⟩
        refine lv_iinc (v := v50) (lv' := [(1, .int v50), (0, .ref a0)]) hx hb dX12_undo_50 hl (k := 1) rfl e_v50.symm (by decide) rfl (fun ls hl => ?_)
        have e_v50 : v50.toInt = p21_l1.toInt + 1 := ad_i e_v50 rfl li_1 (by omega) (by omega)
        refine lv_goto (tgt := 21) hx hb dX12_undo_53 (by decide) ?_
        have hli : dayOk w_2 f0 v50 0 := by
          have e10 : (10 : Int32).toInt.toNat = 10 := by decide
          by_cases hz : p21_l1.toInt = 0
          · refine Or.inr ⟨v48, ?_, ?_, ?_⟩
            · rw [e10, show (10 : Nat) = v34.toInt.toNat by omega]; exact u.2.2.2
            · rw [aiv_was, show 10 + v47.toInt.toNat % 42 = 10 by omega, ivS_10] at r_v48; exact r_v48
            · rw [aiv_was, show 10 + v47.toInt.toNat % 42 = 10 by omega, ivS_10] at s_v48; exact s_v48
          · rcases li_21_0 with hy | ⟨d, he, h1, h2⟩
            · exact Or.inl (by omega)
            · exact Or.inr ⟨d, u.2.2.1 _ _ _ he (Or.inr (by rw [e10]; omega)), h1, h2⟩
        exact ih_21 _ _ _ _ (by omega) ⟨w_2, v50, hw, hM, (by omega), (by omega), f_a0_X12_20, f_a0_X12_26, hli, (lv_sub hl [1, 0] rfl), rfl⟩
    have hli : dayOk w_1 f0 (0 : Int32) 0 := by
      exact Or.inl (by decide)
    exact J21 _ _ _ _ ⟨w_1, 0, hw, hM, (by decide), (by decide), f_a0_X12_20, f_a0_X12_26, hli, (lv_sub hl [1, 0] rfl), rfl⟩
  · simp only [fa_lt, fa_le, fa_eq, li_0] at c_4
    refine lv_iconst (v := (-1)) hx hb dX12_undo_7 (by decide) ?_
    rw [hQ]
    refine W.widen (k := 0) (n := 0) (Nat.le_refl _) (Nat.le_refl _) ?_
    exact W.iret (v := (-1)) hx hb hr (fun t ht hW => ⟨⟨(-1), ws, rfl, ⟨(by decide), (by decide), hw.2.2.2.2, hM, ⟨f1, (by omega), (by omega), f_f0_M_said_10⟩⟩, by rw [ht]; exact hw.2.1, va_K.moved hW.alike hw.1, hw.2.2.1⟩, hw.2.2.2.1.F ht⟩) hw.2.2.2.1.2.2 dX12_undo_8
