theorem ts_3_0 : Cond.selects "BoyBishopModel" ⟨"BoyBishopModel", "four", "(I)V"⟩ ⟨"BoyBishopModel", "four", "(I)V"⟩ ∈ gT := gT_in (List.mem_append_left _ (List.mem_map.mpr ⟨(⟨"BoyBishopModel", "four", "(I)V"⟩, 38), (List.mem_append_right _ (List.mem_append_right _ (List.mem_append_right _ (List.mem_append_left _ (List.mem_of_getElem? (i := 0) rfl))))), rfl⟩)) rfl
theorem ts_5_6 : Cond.selects "BoyBishopModel" ⟨"BoyBishopModel", "isRule", "(I)Z"⟩ ⟨"BoyBishopModel", "isRule", "(I)Z"⟩ ∈ gT := gT_in (List.mem_append_left _ (List.mem_map.mpr ⟨(⟨"BoyBishopModel", "isRule", "(I)Z"⟩, 38), (List.mem_append_right _ (List.mem_append_right _ (List.mem_append_right _ (List.mem_append_right _ (List.mem_append_right _ (List.mem_append_left _ (List.mem_of_getElem? (i := 6) rfl))))))), rfl⟩)) rfl
theorem tw_1154 : (Jvm.Cond.fieldLink "BoyBishopModel" (58 : Nat) "BoyBishopModel" "chosenBy" "[I") ∈ gT := gT_in (List.mem_append_right _ (List.mem_append_right _ (List.mem_append_right _ (List.mem_append_right _ (List.mem_append_right _ (List.mem_append_left _ (List.mem_of_getElem? (i := 194) rfl))))))) rfl
theorem tw_1155 : (Jvm.Cond.fieldLink "BoyBishopModel" (61 : Nat) "BoyBishopModel" "gone" "[I") ∈ gT := gT_in (List.mem_append_right _ (List.mem_append_right _ (List.mem_append_right _ (List.mem_append_right _ (List.mem_append_right _ (List.mem_append_left _ (List.mem_of_getElem? (i := 195) rfl))))))) rfl
theorem tw_1244 : (Jvm.Cond.methodLink "BoyBishopModel" (86 : Nat) ({ cls := "BoyBishopModel", name := "four", desc := "(I)V" } : Jvm.MethodName)) ∈ gT := gT_in (List.mem_append_right _ (List.mem_append_right _ (List.mem_append_right _ (List.mem_append_right _ (List.mem_append_right _ (List.mem_append_right _ (List.mem_append_left _ (List.mem_of_getElem? (i := 44) rfl)))))))) rfl
theorem tw_1246 : (Jvm.Cond.instanceMethod ({ cls := "BoyBishopModel", name := "four", desc := "(I)V" } : Jvm.MethodName)) ∈ gT := gT_in (List.mem_append_right _ (List.mem_append_right _ (List.mem_append_right _ (List.mem_append_right _ (List.mem_append_right _ (List.mem_append_right _ (List.mem_append_left _ (List.mem_of_getElem? (i := 46) rfl)))))))) rfl
theorem tw_1247 : (Jvm.Cond.code ({ cls := "BoyBishopModel", name := "four", desc := "(I)V" } : Jvm.MethodName) prog_14_method_6_code (3 : Nat) (Option.none : Option Jvm.ClassFile.FieldType)) ∈ gT := gT_in (List.mem_append_right _ (List.mem_append_right _ (List.mem_append_right _ (List.mem_append_right _ (List.mem_append_right _ (List.mem_append_right _ (List.mem_append_left _ (List.mem_of_getElem? (i := 47) rfl)))))))) rfl
theorem tw_1440 : (Jvm.Cond.methodLink "BoyBishopModel" (320 : Nat) ({ cls := "BoyBishopModel", name := "isRule", desc := "(I)Z" } : Jvm.MethodName)) ∈ gT := gT_in (List.mem_append_right _ (List.mem_append_right _ (List.mem_append_right _ (List.mem_append_right _ (List.mem_append_right _ (List.mem_append_right _ (List.mem_append_right _ (List.mem_append_left _ (List.mem_of_getElem? (i := 0) rfl))))))))) rfl
theorem tw_1442 : (Jvm.Cond.instanceMethod ({ cls := "BoyBishopModel", name := "isRule", desc := "(I)Z" } : Jvm.MethodName)) ∈ gT := gT_in (List.mem_append_right _ (List.mem_append_right _ (List.mem_append_right _ (List.mem_append_right _ (List.mem_append_right _ (List.mem_append_right _ (List.mem_append_right _ (List.mem_append_left _ (List.mem_of_getElem? (i := 2) rfl))))))))) rfl
theorem tw_1443 : (Jvm.Cond.code ({ cls := "BoyBishopModel", name := "isRule", desc := "(I)Z" } : Jvm.MethodName) prog_14_method_46_code (2 : Nat) (Option.some Jvm.ClassFile.FieldType.boolean)) ∈ gT := gT_in (List.mem_append_right _ (List.mem_append_right _ (List.mem_append_right _ (List.mem_append_right _ (List.mem_append_right _ (List.mem_append_right _ (List.mem_append_right _ (List.mem_append_left _ (List.mem_of_getElem? (i := 3) rfl))))))))) rfl
theorem dX12_feed_0 : decode cX12_feed 0 = .ok (.aload_n 0, 1) := by decide +kernel
theorem dX12_feed_1 : decode cX12_feed 1 = .ok (.getfield 83, 3) := by decide +kernel
theorem dX12_feed_4 : decode cX12_feed 4 = .ok (.bipush 20, 2) := by decide +kernel
theorem dX12_feed_6 : decode cX12_feed 6 = .ok (.iadd, 1) := by decide +kernel
theorem dX12_feed_7 : decode cX12_feed 7 = .ok (.sipush 400, 3) := by decide +kernel
theorem dX12_feed_10 : decode cX12_feed 10 = .ok (.if_icmp .le 5, 3) := by decide +kernel
theorem dX12_feed_13 : decode cX12_feed 13 = .ok (.iconst (-1), 1) := by decide +kernel
theorem dX12_feed_14 : decode cX12_feed 14 = .ok (.ireturn, 1) := by decide +kernel
theorem dX12_feed_15 : decode cX12_feed 15 = .ok (.aload_n 0, 1) := by decide +kernel
theorem dX12_feed_16 : decode cX12_feed 16 = .ok (.iload_n 1, 1) := by decide +kernel
theorem dX12_feed_17 : decode cX12_feed 17 = .ok (.invokevirtual 86, 3) := by decide +kernel
theorem dX12_feed_20 : decode cX12_feed 20 = .ok (.aload_n 0, 1) := by decide +kernel
theorem dX12_feed_21 : decode cX12_feed 21 = .ok (.iload_n 2, 1) := by decide +kernel
theorem dX12_feed_22 : decode cX12_feed 22 = .ok (.invokevirtual 86, 3) := by decide +kernel
theorem dX12_feed_25 : decode cX12_feed 25 = .ok (.aload_n 0, 1) := by decide +kernel
theorem dX12_feed_26 : decode cX12_feed 26 = .ok (.iload_n 3, 1) := by decide +kernel
theorem dX12_feed_27 : decode cX12_feed 27 = .ok (.invokevirtual 86, 3) := by decide +kernel
theorem dX12_feed_30 : decode cX12_feed 30 = .ok (.aload_n 0, 1) := by decide +kernel
theorem dX12_feed_31 : decode cX12_feed 31 = .ok (.iload 4, 2) := by decide +kernel
theorem dX12_feed_33 : decode cX12_feed 33 = .ok (.invokevirtual 86, 3) := by decide +kernel
theorem dX12_feed_36 : decode cX12_feed 36 = .ok (.aload_n 0, 1) := by decide +kernel
theorem dX12_feed_37 : decode cX12_feed 37 = .ok (.iload 5, 2) := by decide +kernel
theorem dX12_feed_39 : decode cX12_feed 39 = .ok (.invokevirtual 86, 3) := by decide +kernel
theorem dX12_feed_42 : decode cX12_feed 42 = .ok (.aload_n 0, 1) := by decide +kernel
theorem dX12_feed_43 : decode cX12_feed 43 = .ok (.getfield 83, 3) := by decide +kernel
theorem dX12_feed_46 : decode cX12_feed 46 = .ok (.ireturn, 1) := by decide +kernel
theorem dX12_fillsFits_0 : decode cX12_fillsFits 0 = .ok (.aload_n 0, 1) := by decide +kernel
theorem dX12_fillsFits_1 : decode cX12_fillsFits 1 = .ok (.getfield 42, 3) := by decide +kernel
theorem dX12_fillsFits_4 : decode cX12_fillsFits 4 = .ok (.istore_n 1, 1) := by decide +kernel
theorem dX12_fillsFits_5 : decode cX12_fillsFits 5 = .ok (.aload_n 0, 1) := by decide +kernel
theorem dX12_fillsFits_6 : decode cX12_fillsFits 6 = .ok (.invokevirtual 394, 3) := by decide +kernel
theorem dX12_fillsFits_9 : decode cX12_fillsFits 9 = .ok (.iconst 0, 1) := by decide +kernel
theorem dX12_fillsFits_10 : decode cX12_fillsFits 10 = .ok (.istore_n 2, 1) := by decide +kernel
theorem dX12_fillsFits_11 : decode cX12_fillsFits 11 = .ok (.iload_n 2, 1) := by decide +kernel
theorem dX12_fillsFits_12 : decode cX12_fillsFits 12 = .ok (.aload_n 0, 1) := by decide +kernel
theorem dX12_fillsFits_13 : decode cX12_fillsFits 13 = .ok (.getfield 271, 3) := by decide +kernel
theorem dX12_fillsFits_16 : decode cX12_fillsFits 16 = .ok (.if_icmp .gt 136, 3) := by decide +kernel
theorem dX12_fillsFits_19 : decode cX12_fillsFits 19 = .ok (.aload_n 0, 1) := by decide +kernel
theorem dX12_fillsFits_20 : decode cX12_fillsFits 20 = .ok (.iload_n 2, 1) := by decide +kernel
theorem dX12_fillsFits_21 : decode cX12_fillsFits 21 = .ok (.iconst 1, 1) := by decide +kernel
theorem dX12_fillsFits_22 : decode cX12_fillsFits 22 = .ok (.isub, 1) := by decide +kernel
theorem dX12_fillsFits_23 : decode cX12_fillsFits 23 = .ok (.putfield 42, 3) := by decide +kernel
theorem dX12_fillsFits_26 : decode cX12_fillsFits 26 = .ok (.aload_n 0, 1) := by decide +kernel
theorem dX12_fillsFits_27 : decode cX12_fillsFits 27 = .ok (.invokevirtual 280, 3) := by decide +kernel
theorem dX12_fillsFits_30 : decode cX12_fillsFits 30 = .ok (.iconst 0, 1) := by decide +kernel
theorem dX12_fillsFits_31 : decode cX12_fillsFits 31 = .ok (.istore_n 3, 1) := by decide +kernel
theorem dX12_fillsFits_32 : decode cX12_fillsFits 32 = .ok (.iload_n 3, 1) := by decide +kernel
theorem dX12_fillsFits_33 : decode cX12_fillsFits 33 = .ok (.bipush 60, 2) := by decide +kernel
theorem dX12_fillsFits_35 : decode cX12_fillsFits 35 = .ok (.if_icmp .gt 30, 3) := by decide +kernel
theorem dX12_fillsFits_38 : decode cX12_fillsFits 38 = .ok (.aload_n 0, 1) := by decide +kernel
theorem dX12_fillsFits_39 : decode cX12_fillsFits 39 = .ok (.invokevirtual 385, 3) := by decide +kernel
theorem dX12_fillsFits_42 : decode cX12_fillsFits 42 = .ok (.aload_n 0, 1) := by decide +kernel
theorem dX12_fillsFits_43 : decode cX12_fillsFits 43 = .ok (.getfield 68, 3) := by decide +kernel
theorem dX12_fillsFits_46 : decode cX12_fillsFits 46 = .ok (.iload_n 2, 1) := by decide +kernel
theorem dX12_fillsFits_47 : decode cX12_fillsFits 47 = .ok (.iload_n 3, 1) := by decide +kernel
theorem dX12_fillsFits_48 : decode cX12_fillsFits 48 = .ok (.invokestatic 447, 3) := by decide +kernel
theorem dX12_fillsFits_51 : decode cX12_fillsFits 51 = .ok (.aload_n 0, 1) := by decide +kernel
theorem dX12_fillsFits_52 : decode cX12_fillsFits 52 = .ok (.getfield 39, 3) := by decide +kernel
theorem dX12_fillsFits_55 : decode cX12_fillsFits 55 = .ok (.bipush 11, 2) := by decide +kernel
theorem dX12_fillsFits_57 : decode cX12_fillsFits 57 = .ok (.iaload, 1) := by decide +kernel
theorem dX12_fillsFits_58 : decode cX12_fillsFits 58 = .ok (.iastore, 1) := by decide +kernel
theorem dX12_fillsFits_59 : decode cX12_fillsFits 59 = .ok (.iinc 3 1, 3) := by decide +kernel
theorem dX12_fillsFits_62 : decode cX12_fillsFits 62 = .ok (.goto (-30), 3) := by decide +kernel
theorem dX12_fillsFits_65 : decode cX12_fillsFits 65 = .ok (.iconst 1, 1) := by decide +kernel
theorem dX12_fillsFits_66 : decode cX12_fillsFits 66 = .ok (.istore_n 3, 1) := by decide +kernel
theorem dX12_fillsFits_67 : decode cX12_fillsFits 67 = .ok (.iconst 0, 1) := by decide +kernel
theorem dX12_fillsFits_68 : decode cX12_fillsFits 68 = .ok (.istore 4, 2) := by decide +kernel
theorem dX12_fillsFits_70 : decode cX12_fillsFits 70 = .ok (.iload 4, 2) := by decide +kernel
theorem dX12_fillsFits_72 : decode cX12_fillsFits 72 = .ok (.aload_n 0, 1) := by decide +kernel
theorem dX12_fillsFits_73 : decode cX12_fillsFits 73 = .ok (.getfield 39, 3) := by decide +kernel
theorem dX12_fillsFits_76 : decode cX12_fillsFits 76 = .ok (.sipush 305, 3) := by decide +kernel
theorem dX12_fillsFits_79 : decode cX12_fillsFits 79 = .ok (.iaload, 1) := by decide +kernel
theorem dX12_fillsFits_80 : decode cX12_fillsFits 80 = .ok (.if_icmp .ge 59, 3) := by decide +kernel
theorem dX12_fillsFits_83 : decode cX12_fillsFits 83 = .ok (.iload_n 3, 1) := by decide +kernel
theorem dX12_fillsFits_84 : decode cX12_fillsFits 84 = .ok (.ifCond .eq 47, 3) := by decide +kernel
theorem dX12_fillsFits_87 : decode cX12_fillsFits 87 = .ok (.aload_n 0, 1) := by decide +kernel
theorem dX12_fillsFits_88 : decode cX12_fillsFits 88 = .ok (.getfield 68, 3) := by decide +kernel
theorem dX12_fillsFits_91 : decode cX12_fillsFits 91 = .ok (.iload_n 2, 1) := by decide +kernel
theorem dX12_fillsFits_92 : decode cX12_fillsFits 92 = .ok (.aload_n 0, 1) := by decide +kernel
theorem dX12_fillsFits_93 : decode cX12_fillsFits 93 = .ok (.getfield 39, 3) := by decide +kernel
theorem dX12_fillsFits_96 : decode cX12_fillsFits 96 = .ok (.sipush 285, 3) := by decide +kernel
theorem dX12_fillsFits_99 : decode cX12_fillsFits 99 = .ok (.iconst 2, 1) := by decide +kernel
theorem dX12_fillsFits_100 : decode cX12_fillsFits 100 = .ok (.iload 4, 2) := by decide +kernel
theorem dX12_fillsFits_102 : decode cX12_fillsFits 102 = .ok (.imul, 1) := by decide +kernel
theorem dX12_fillsFits_103 : decode cX12_fillsFits 103 = .ok (.iadd, 1) := by decide +kernel
theorem dX12_fillsFits_104 : decode cX12_fillsFits 104 = .ok (.iaload, 1) := by decide +kernel
theorem dX12_fillsFits_105 : decode cX12_fillsFits 105 = .ok (.invokestatic 447, 3) := by decide +kernel
theorem dX12_fillsFits_108 : decode cX12_fillsFits 108 = .ok (.iaload, 1) := by decide +kernel
theorem dX12_fillsFits_109 : decode cX12_fillsFits 109 = .ok (.aload_n 0, 1) := by decide +kernel
theorem dX12_fillsFits_110 : decode cX12_fillsFits 110 = .ok (.getfield 39, 3) := by decide +kernel
theorem dX12_fillsFits_113 : decode cX12_fillsFits 113 = .ok (.sipush 285, 3) := by decide +kernel
theorem dX12_fillsFits_116 : decode cX12_fillsFits 116 = .ok (.iconst 2, 1) := by decide +kernel
theorem dX12_fillsFits_117 : decode cX12_fillsFits 117 = .ok (.iload 4, 2) := by decide +kernel
theorem dX12_fillsFits_119 : decode cX12_fillsFits 119 = .ok (.imul, 1) := by decide +kernel
theorem dX12_fillsFits_120 : decode cX12_fillsFits 120 = .ok (.iadd, 1) := by decide +kernel
theorem dX12_fillsFits_121 : decode cX12_fillsFits 121 = .ok (.iconst 1, 1) := by decide +kernel
theorem dX12_fillsFits_122 : decode cX12_fillsFits 122 = .ok (.iadd, 1) := by decide +kernel
theorem dX12_fillsFits_123 : decode cX12_fillsFits 123 = .ok (.iaload, 1) := by decide +kernel
theorem dX12_fillsFits_124 : decode cX12_fillsFits 124 = .ok (.if_icmp .ne 7, 3) := by decide +kernel
theorem dX12_fillsFits_127 : decode cX12_fillsFits 127 = .ok (.iconst 1, 1) := by decide +kernel
theorem dX12_fillsFits_128 : decode cX12_fillsFits 128 = .ok (.goto 4, 3) := by decide +kernel
theorem dX12_fillsFits_131 : decode cX12_fillsFits 131 = .ok (.iconst 0, 1) := by decide +kernel
theorem dX12_fillsFits_132 : decode cX12_fillsFits 132 = .ok (.istore_n 3, 1) := by decide +kernel
theorem dX12_fillsFits_133 : decode cX12_fillsFits 133 = .ok (.iinc 4 1, 3) := by decide +kernel
theorem dX12_fillsFits_136 : decode cX12_fillsFits 136 = .ok (.goto (-66), 3) := by decide +kernel
theorem dX12_fillsFits_139 : decode cX12_fillsFits 139 = .ok (.aload_n 0, 1) := by decide +kernel
theorem dX12_fillsFits_140 : decode cX12_fillsFits 140 = .ok (.getfield 64, 3) := by decide +kernel
theorem dX12_fillsFits_143 : decode cX12_fillsFits 143 = .ok (.iload_n 2, 1) := by decide +kernel
theorem dX12_fillsFits_144 : decode cX12_fillsFits 144 = .ok (.iload_n 3, 1) := by decide +kernel
theorem dX12_fillsFits_145 : decode cX12_fillsFits 145 = .ok (.bastore, 1) := by decide +kernel
theorem dX12_fillsFits_146 : decode cX12_fillsFits 146 = .ok (.iinc 2 1, 3) := by decide +kernel
theorem dX12_fillsFits_149 : decode cX12_fillsFits 149 = .ok (.goto (-138), 3) := by decide +kernel
theorem dX12_fillsFits_152 : decode cX12_fillsFits 152 = .ok (.aload_n 0, 1) := by decide +kernel
theorem dX12_fillsFits_153 : decode cX12_fillsFits 153 = .ok (.iload_n 1, 1) := by decide +kernel
theorem dX12_fillsFits_154 : decode cX12_fillsFits 154 = .ok (.putfield 42, 3) := by decide +kernel
theorem dX12_fillsFits_157 : decode cX12_fillsFits 157 = .ok (.aload_n 0, 1) := by decide +kernel
theorem dX12_fillsFits_158 : decode cX12_fillsFits 158 = .ok (.invokevirtual 397, 3) := by decide +kernel
theorem dX12_fillsFits_161 : decode cX12_fillsFits 161 = .ok (.return_, 1) := by decide +kernel
theorem dX12_fillsWanted_0 : decode cX12_fillsWanted 0 = .ok (.iconst 0, 1) := by decide +kernel
theorem dX12_fillsWanted_1 : decode cX12_fillsWanted 1 = .ok (.istore_n 1, 1) := by decide +kernel
theorem dX12_fillsWanted_2 : decode cX12_fillsWanted 2 = .ok (.iload_n 1, 1) := by decide +kernel
theorem dX12_fillsWanted_3 : decode cX12_fillsWanted 3 = .ok (.aload_n 0, 1) := by decide +kernel
theorem dX12_fillsWanted_4 : decode cX12_fillsWanted 4 = .ok (.getfield 39, 3) := by decide +kernel
theorem dX12_fillsWanted_7 : decode cX12_fillsWanted 7 = .ok (.iconst 3, 1) := by decide +kernel
theorem dX12_fillsWanted_8 : decode cX12_fillsWanted 8 = .ok (.iaload, 1) := by decide +kernel
theorem dX12_fillsWanted_9 : decode cX12_fillsWanted 9 = .ok (.if_icmp .ge 56, 3) := by decide +kernel
theorem dX12_fillsWanted_12 : decode cX12_fillsWanted 12 = .ok (.iconst 0, 1) := by decide +kernel
theorem dX12_fillsWanted_13 : decode cX12_fillsWanted 13 = .ok (.istore_n 2, 1) := by decide +kernel
theorem dX12_fillsWanted_14 : decode cX12_fillsWanted 14 = .ok (.iload_n 2, 1) := by decide +kernel
theorem dX12_fillsWanted_15 : decode cX12_fillsWanted 15 = .ok (.aload_n 0, 1) := by decide +kernel
theorem dX12_fillsWanted_16 : decode cX12_fillsWanted 16 = .ok (.getfield 39, 3) := by decide +kernel
theorem dX12_fillsWanted_19 : decode cX12_fillsWanted 19 = .ok (.iconst 3, 1) := by decide +kernel
theorem dX12_fillsWanted_20 : decode cX12_fillsWanted 20 = .ok (.iaload, 1) := by decide +kernel
theorem dX12_fillsWanted_21 : decode cX12_fillsWanted 21 = .ok (.if_icmp .ge 38, 3) := by decide +kernel
theorem dX12_fillsWanted_24 : decode cX12_fillsWanted 24 = .ok (.aload_n 0, 1) := by decide +kernel
theorem dX12_fillsWanted_25 : decode cX12_fillsWanted 25 = .ok (.getfield 55, 3) := by decide +kernel
theorem dX12_fillsWanted_28 : decode cX12_fillsWanted 28 = .ok (.bipush 6, 2) := by decide +kernel
theorem dX12_fillsWanted_30 : decode cX12_fillsWanted 30 = .ok (.iload_n 1, 1) := by decide +kernel
theorem dX12_fillsWanted_31 : decode cX12_fillsWanted 31 = .ok (.imul, 1) := by decide +kernel
theorem dX12_fillsWanted_32 : decode cX12_fillsWanted 32 = .ok (.iload_n 2, 1) := by decide +kernel
theorem dX12_fillsWanted_33 : decode cX12_fillsWanted 33 = .ok (.iadd, 1) := by decide +kernel
theorem dX12_fillsWanted_34 : decode cX12_fillsWanted 34 = .ok (.aload_n 0, 1) := by decide +kernel
theorem dX12_fillsWanted_35 : decode cX12_fillsWanted 35 = .ok (.iload_n 2, 1) := by decide +kernel
theorem dX12_fillsWanted_36 : decode cX12_fillsWanted 36 = .ok (.invokevirtual 314, 3) := by decide +kernel
theorem dX12_fillsWanted_39 : decode cX12_fillsWanted 39 = .ok (.ifCond .eq 12, 3) := by decide +kernel
theorem dX12_fillsWanted_42 : decode cX12_fillsWanted 42 = .ok (.aload_n 0, 1) := by decide +kernel
theorem dX12_fillsWanted_43 : decode cX12_fillsWanted 43 = .ok (.iload_n 1, 1) := by decide +kernel
theorem dX12_fillsWanted_44 : decode cX12_fillsWanted 44 = .ok (.iload_n 2, 1) := by decide +kernel
theorem dX12_fillsWanted_45 : decode cX12_fillsWanted 45 = .ok (.invokevirtual 339, 3) := by decide +kernel
theorem dX12_fillsWanted_48 : decode cX12_fillsWanted 48 = .ok (.goto 4, 3) := by decide +kernel
theorem dX12_fillsWanted_51 : decode cX12_fillsWanted 51 = .ok (.lconst 0, 1) := by decide +kernel
theorem dX12_fillsWanted_52 : decode cX12_fillsWanted 52 = .ok (.lastore, 1) := by decide +kernel
theorem dX12_fillsWanted_53 : decode cX12_fillsWanted 53 = .ok (.iinc 2 1, 3) := by decide +kernel
theorem dX12_fillsWanted_56 : decode cX12_fillsWanted 56 = .ok (.goto (-42), 3) := by decide +kernel
theorem dX12_fillsWanted_59 : decode cX12_fillsWanted 59 = .ok (.iinc 1 1, 3) := by decide +kernel
theorem dX12_fillsWanted_62 : decode cX12_fillsWanted 62 = .ok (.goto (-60), 3) := by decide +kernel
theorem dX12_fillsWanted_65 : decode cX12_fillsWanted 65 = .ok (.return_, 1) := by decide +kernel
theorem dX12_force_0 : decode cX12_force 0 = .ok (.iload_n 1, 1) := by decide +kernel
theorem dX12_force_1 : decode cX12_force 1 = .ok (.iconst (-1), 1) := by decide +kernel
theorem dX12_force_2 : decode cX12_force 2 = .ok (.if_icmp .eq 14, 3) := by decide +kernel
theorem dX12_force_5 : decode cX12_force 5 = .ok (.aload_n 0, 1) := by decide +kernel
theorem dX12_force_6 : decode cX12_force 6 = .ok (.iload_n 1, 1) := by decide +kernel
theorem dX12_force_7 : decode cX12_force 7 = .ok (.invokevirtual 320, 3) := by decide +kernel
theorem dX12_force_10 : decode cX12_force 10 = .ok (.ifCond .ne 6, 3) := by decide +kernel
theorem dX12_force_13 : decode cX12_force 13 = .ok (.bipush (-2), 2) := by decide +kernel
theorem dX12_force_15 : decode cX12_force 15 = .ok (.ireturn, 1) := by decide +kernel
theorem dX12_force_16 : decode cX12_force 16 = .ok (.aload_n 0, 1) := by decide +kernel
theorem dX12_force_17 : decode cX12_force 17 = .ok (.getfield 42, 3) := by decide +kernel
theorem dX12_force_20 : decode cX12_force 20 = .ok (.istore_n 2, 1) := by decide +kernel
theorem dX12_force_21 : decode cX12_force 21 = .ok (.aload_n 0, 1) := by decide +kernel
theorem dX12_force_22 : decode cX12_force 22 = .ok (.iload_n 1, 1) := by decide +kernel
theorem dX12_force_23 : decode cX12_force 23 = .ok (.putfield 42, 3) := by decide +kernel
theorem dX12_force_26 : decode cX12_force 26 = .ok (.iload_n 2, 1) := by decide +kernel
theorem dX12_force_27 : decode cX12_force 27 = .ok (.ireturn, 1) := by decide +kernel
theorem dX12_four_0 : decode cX12_four 0 = .ok (.bipush 24, 2) := by decide +kernel
theorem dX12_four_2 : decode cX12_four 2 = .ok (.istore_n 2, 1) := by decide +kernel
theorem dX12_four_3 : decode cX12_four 3 = .ok (.iload_n 2, 1) := by decide +kernel
theorem dX12_four_4 : decode cX12_four 4 = .ok (.ifCond .lt 32, 3) := by decide +kernel
theorem dX12_four_7 : decode cX12_four 7 = .ok (.aload_n 0, 1) := by decide +kernel
theorem dX12_four_8 : decode cX12_four 8 = .ok (.getfield 7, 3) := by decide +kernel
theorem dX12_four_11 : decode cX12_four 11 = .ok (.aload_n 0, 1) := by decide +kernel
theorem dX12_four_12 : decode cX12_four 12 = .ok (.getfield 83, 3) := by decide +kernel
theorem dX12_four_15 : decode cX12_four 15 = .ok (.iload_n 1, 1) := by decide +kernel
theorem dX12_four_16 : decode cX12_four 16 = .ok (.iload_n 2, 1) := by decide +kernel
theorem dX12_four_17 : decode cX12_four 17 = .ok (.ishr, 1) := by decide +kernel
theorem dX12_four_18 : decode cX12_four 18 = .ok (.i2b, 1) := by decide +kernel
theorem dX12_four_19 : decode cX12_four 19 = .ok (.bastore, 1) := by decide +kernel
theorem dX12_four_20 : decode cX12_four 20 = .ok (.aload_n 0, 1) := by decide +kernel
theorem dX12_four_21 : decode cX12_four 21 = .ok (.dup, 1) := by decide +kernel
theorem dX12_four_22 : decode cX12_four 22 = .ok (.getfield 83, 3) := by decide +kernel
theorem dX12_four_25 : decode cX12_four 25 = .ok (.iconst 1, 1) := by decide +kernel
theorem dX12_four_26 : decode cX12_four 26 = .ok (.iadd, 1) := by decide +kernel
theorem dX12_four_27 : decode cX12_four 27 = .ok (.putfield 83, 3) := by decide +kernel
theorem dX12_four_30 : decode cX12_four 30 = .ok (.iinc 2 (-8), 3) := by decide +kernel
theorem dX12_four_33 : decode cX12_four 33 = .ok (.goto (-30), 3) := by decide +kernel
theorem dX12_four_36 : decode cX12_four 36 = .ok (.return_, 1) := by decide +kernel
theorem dX12_gainBy_0 : decode cX12_gainBy 0 = .ok (.aload_n 0, 1) := by decide +kernel
theorem dX12_gainBy_1 : decode cX12_gainBy 1 = .ok (.getfield 58, 3) := by decide +kernel
theorem dX12_gainBy_4 : decode cX12_gainBy 4 = .ok (.iload_n 3, 1) := by decide +kernel
theorem dX12_gainBy_5 : decode cX12_gainBy 5 = .ok (.iaload, 1) := by decide +kernel
theorem dX12_gainBy_6 : decode cX12_gainBy 6 = .ok (.iload_n 1, 1) := by decide +kernel
theorem dX12_gainBy_7 : decode cX12_gainBy 7 = .ok (.if_icmp .ne 12, 3) := by decide +kernel
theorem dX12_gainBy_10 : decode cX12_gainBy 10 = .ok (.bipush 20, 2) := by decide +kernel
theorem dX12_gainBy_12 : decode cX12_gainBy 12 = .ok (.iconst 5, 1) := by decide +kernel
theorem dX12_gainBy_13 : decode cX12_gainBy 13 = .ok (.iload_n 2, 1) := by decide +kernel
theorem dX12_gainBy_14 : decode cX12_gainBy 14 = .ok (.imul, 1) := by decide +kernel
theorem dX12_gainBy_15 : decode cX12_gainBy 15 = .ok (.isub, 1) := by decide +kernel
theorem dX12_gainBy_16 : decode cX12_gainBy 16 = .ok (.goto 4, 3) := by decide +kernel
theorem dX12_gainBy_19 : decode cX12_gainBy 19 = .ok (.iconst 0, 1) := by decide +kernel
theorem dX12_gainBy_20 : decode cX12_gainBy 20 = .ok (.ireturn, 1) := by decide +kernel
theorem dX12_give_0 : decode cX12_give 0 = .ok (.aload_n 0, 1) := by decide +kernel
theorem dX12_give_1 : decode cX12_give 1 = .ok (.iload_n 1, 1) := by decide +kernel
theorem dX12_give_2 : decode cX12_give 2 = .ok (.invokevirtual 308, 3) := by decide +kernel
theorem dX12_give_5 : decode cX12_give 5 = .ok (.ifCond .eq 30, 3) := by decide +kernel
theorem dX12_give_8 : decode cX12_give 8 = .ok (.aload_n 0, 1) := by decide +kernel
theorem dX12_give_9 : decode cX12_give 9 = .ok (.iload_n 2, 1) := by decide +kernel
theorem dX12_give_10 : decode cX12_give 10 = .ok (.invokevirtual 361, 3) := by decide +kernel
theorem dX12_give_13 : decode cX12_give 13 = .ok (.ifCond .eq 22, 3) := by decide +kernel
theorem dX12_give_16 : decode cX12_give 16 = .ok (.aload_n 0, 1) := by decide +kernel
theorem dX12_give_17 : decode cX12_give 17 = .ok (.getfield 39, 3) := by decide +kernel
theorem dX12_give_20 : decode cX12_give 20 = .ok (.bipush 11, 2) := by decide +kernel
theorem dX12_give_22 : decode cX12_give 22 = .ok (.iaload, 1) := by decide +kernel
theorem dX12_give_23 : decode cX12_give 23 = .ok (.ifCond .lt 12, 3) := by decide +kernel
theorem dX12_give_26 : decode cX12_give 26 = .ok (.aload_n 0, 1) := by decide +kernel
theorem dX12_give_27 : decode cX12_give 27 = .ok (.iload_n 1, 1) := by decide +kernel
theorem dX12_give_28 : decode cX12_give 28 = .ok (.iconst 1, 1) := by decide +kernel
theorem dX12_give_29 : decode cX12_give 29 = .ok (.invokevirtual 311, 3) := by decide +kernel
theorem dX12_give_32 : decode cX12_give 32 = .ok (.ifCond .ne 5, 3) := by decide +kernel
theorem dX12_give_35 : decode cX12_give 35 = .ok (.iconst (-1), 1) := by decide +kernel
theorem dX12_give_36 : decode cX12_give 36 = .ok (.ireturn, 1) := by decide +kernel
theorem dX12_give_37 : decode cX12_give 37 = .ok (.aload_n 0, 1) := by decide +kernel
theorem dX12_give_38 : decode cX12_give 38 = .ok (.invokevirtual 382, 3) := by decide +kernel
theorem dX12_give_41 : decode cX12_give 41 = .ok (.aload_n 0, 1) := by decide +kernel
theorem dX12_give_42 : decode cX12_give 42 = .ok (.getfield 39, 3) := by decide +kernel
theorem dX12_give_45 : decode cX12_give 45 = .ok (.bipush 40, 2) := by decide +kernel
theorem dX12_give_47 : decode cX12_give 47 = .ok (.iconst 3, 1) := by decide +kernel
theorem dX12_give_48 : decode cX12_give 48 = .ok (.iload_n 1, 1) := by decide +kernel
theorem dX12_give_49 : decode cX12_give 49 = .ok (.imul, 1) := by decide +kernel
theorem dX12_give_50 : decode cX12_give 50 = .ok (.iadd, 1) := by decide +kernel
theorem dX12_give_51 : decode cX12_give 51 = .ok (.iconst 1, 1) := by decide +kernel
theorem dX12_give_52 : decode cX12_give 52 = .ok (.iadd, 1) := by decide +kernel
theorem dX12_give_53 : decode cX12_give 53 = .ok (.iconst 0, 1) := by decide +kernel
theorem dX12_give_54 : decode cX12_give 54 = .ok (.iastore, 1) := by decide +kernel
theorem dX12_give_55 : decode cX12_give 55 = .ok (.aload_n 0, 1) := by decide +kernel
theorem dX12_give_56 : decode cX12_give 56 = .ok (.getfield 39, 3) := by decide +kernel
theorem dX12_give_59 : decode cX12_give 59 = .ok (.bipush 40, 2) := by decide +kernel
theorem dX12_give_61 : decode cX12_give 61 = .ok (.iconst 3, 1) := by decide +kernel
theorem dX12_give_62 : decode cX12_give 62 = .ok (.iload_n 2, 1) := by decide +kernel
theorem dX12_give_63 : decode cX12_give 63 = .ok (.imul, 1) := by decide +kernel
theorem dX12_give_64 : decode cX12_give 64 = .ok (.iadd, 1) := by decide +kernel
theorem dX12_give_65 : decode cX12_give 65 = .ok (.iconst 2, 1) := by decide +kernel
theorem dX12_give_66 : decode cX12_give 66 = .ok (.iadd, 1) := by decide +kernel
theorem dX12_give_67 : decode cX12_give 67 = .ok (.iload_n 1, 1) := by decide +kernel
theorem dX12_give_68 : decode cX12_give 68 = .ok (.iastore, 1) := by decide +kernel
theorem dX12_give_69 : decode cX12_give 69 = .ok (.aload_n 0, 1) := by decide +kernel
theorem dX12_give_70 : decode cX12_give 70 = .ok (.getfield 39, 3) := by decide +kernel
theorem dX12_give_73 : decode cX12_give 73 = .ok (.bipush 110, 2) := by decide +kernel
theorem dX12_give_75 : decode cX12_give 75 = .ok (.iload_n 1, 1) := by decide +kernel
theorem dX12_give_76 : decode cX12_give 76 = .ok (.iadd, 1) := by decide +kernel
theorem dX12_give_77 : decode cX12_give 77 = .ok (.iaload, 1) := by decide +kernel
theorem dX12_give_78 : decode cX12_give 78 = .ok (.ireturn, 1) := by decide +kernel
theorem dX12_goneTill_0 : decode cX12_goneTill 0 = .ok (.iload_n 1, 1) := by decide +kernel
theorem dX12_goneTill_1 : decode cX12_goneTill 1 = .ok (.iconst 1, 1) := by decide +kernel
theorem dX12_goneTill_2 : decode cX12_goneTill 2 = .ok (.iload_n 2, 1) := by decide +kernel
theorem dX12_goneTill_3 : decode cX12_goneTill 3 = .ok (.ishl, 1) := by decide +kernel
theorem dX12_goneTill_4 : decode cX12_goneTill 4 = .ok (.iconst (-1), 1) := by decide +kernel
theorem dX12_goneTill_5 : decode cX12_goneTill 5 = .ok (.ixor, 1) := by decide +kernel
theorem dX12_goneTill_6 : decode cX12_goneTill 6 = .ok (.iand, 1) := by decide +kernel
theorem dX12_goneTill_7 : decode cX12_goneTill 7 = .ok (.istore_n 3, 1) := by decide +kernel
theorem dX12_goneTill_8 : decode cX12_goneTill 8 = .ok (.iload_n 3, 1) := by decide +kernel
theorem dX12_goneTill_9 : decode cX12_goneTill 9 = .ok (.ifCond .ne 12, 3) := by decide +kernel
theorem dX12_goneTill_12 : decode cX12_goneTill 12 = .ok (.aload_n 0, 1) := by decide +kernel
theorem dX12_goneTill_13 : decode cX12_goneTill 13 = .ok (.iconst 0, 1) := by decide +kernel
theorem dX12_goneTill_14 : decode cX12_goneTill 14 = .ok (.iload_n 2, 1) := by decide +kernel
theorem dX12_goneTill_15 : decode cX12_goneTill 15 = .ok (.iconst 1, 1) := by decide +kernel
theorem dX12_goneTill_16 : decode cX12_goneTill 16 = .ok (.iadd, 1) := by decide +kernel
theorem dX12_goneTill_17 : decode cX12_goneTill 17 = .ok (.invokevirtual 317, 3) := by decide +kernel
theorem dX12_goneTill_20 : decode cX12_goneTill 20 = .ok (.ireturn, 1) := by decide +kernel
theorem dX12_goneTill_21 : decode cX12_goneTill 21 = .ok (.sipush 999, 3) := by decide +kernel
theorem dX12_goneTill_24 : decode cX12_goneTill 24 = .ok (.istore 4, 2) := by decide +kernel
theorem dX12_goneTill_26 : decode cX12_goneTill 26 = .ok (.iconst 0, 1) := by decide +kernel
theorem dX12_goneTill_27 : decode cX12_goneTill 27 = .ok (.istore 5, 2) := by decide +kernel
theorem dX12_goneTill_29 : decode cX12_goneTill 29 = .ok (.iload 5, 2) := by decide +kernel
theorem dX12_goneTill_31 : decode cX12_goneTill 31 = .ok (.aload_n 0, 1) := by decide +kernel
theorem dX12_goneTill_32 : decode cX12_goneTill 32 = .ok (.getfield 39, 3) := by decide +kernel
theorem dX12_goneTill_35 : decode cX12_goneTill 35 = .ok (.iconst 5, 1) := by decide +kernel
theorem dX12_goneTill_36 : decode cX12_goneTill 36 = .ok (.iaload, 1) := by decide +kernel
theorem dX12_goneTill_37 : decode cX12_goneTill 37 = .ok (.if_icmp .ge 63, 3) := by decide +kernel
theorem dX12_goneTill_40 : decode cX12_goneTill 40 = .ok (.iload_n 3, 1) := by decide +kernel
theorem dX12_goneTill_41 : decode cX12_goneTill 41 = .ok (.iload 5, 2) := by decide +kernel
theorem dX12_goneTill_43 : decode cX12_goneTill 43 = .ok (.invokestatic 406, 3) := by decide +kernel
theorem dX12_goneTill_46 : decode cX12_goneTill 46 = .ok (.ifCond .ne 6, 3) := by decide +kernel
theorem dX12_goneTill_49 : decode cX12_goneTill 49 = .ok (.goto 45, 3) := by decide +kernel
theorem dX12_goneTill_52 : decode cX12_goneTill 52 = .ok (.aload_n 0, 1) := by decide +kernel
theorem dX12_goneTill_53 : decode cX12_goneTill 53 = .ok (.getfield 61, 3) := by decide +kernel
theorem dX12_goneTill_56 : decode cX12_goneTill 56 = .ok (.bipush 6, 2) := by decide +kernel
theorem dX12_goneTill_58 : decode cX12_goneTill 58 = .ok (.iload_n 3, 1) := by decide +kernel
theorem dX12_goneTill_59 : decode cX12_goneTill 59 = .ok (.imul, 1) := by decide +kernel
theorem dX12_goneTill_60 : decode cX12_goneTill 60 = .ok (.iload 5, 2) := by decide +kernel
theorem dX12_goneTill_62 : decode cX12_goneTill 62 = .ok (.iadd, 1) := by decide +kernel
theorem dX12_goneTill_63 : decode cX12_goneTill 63 = .ok (.iaload, 1) := by decide +kernel
theorem dX12_goneTill_64 : decode cX12_goneTill 64 = .ok (.aload_n 0, 1) := by decide +kernel
theorem dX12_goneTill_65 : decode cX12_goneTill 65 = .ok (.iload 5, 2) := by decide +kernel
theorem dX12_goneTill_67 : decode cX12_goneTill 67 = .ok (.iconst 1, 1) := by decide +kernel
theorem dX12_goneTill_68 : decode cX12_goneTill 68 = .ok (.iadd, 1) := by decide +kernel
theorem dX12_goneTill_69 : decode cX12_goneTill 69 = .ok (.iload_n 2, 1) := by decide +kernel
theorem dX12_goneTill_70 : decode cX12_goneTill 70 = .ok (.iconst 1, 1) := by decide +kernel
theorem dX12_goneTill_71 : decode cX12_goneTill 71 = .ok (.iadd, 1) := by decide +kernel
theorem dX12_goneTill_72 : decode cX12_goneTill 72 = .ok (.invokevirtual 317, 3) := by decide +kernel
theorem dX12_goneTill_75 : decode cX12_goneTill 75 = .ok (.iadd, 1) := by decide +kernel
theorem dX12_goneTill_76 : decode cX12_goneTill 76 = .ok (.istore 6, 2) := by decide +kernel
theorem dX12_goneTill_78 : decode cX12_goneTill 78 = .ok (.iload 6, 2) := by decide +kernel
theorem dX12_goneTill_80 : decode cX12_goneTill 80 = .ok (.iload 4, 2) := by decide +kernel
theorem dX12_goneTill_82 : decode cX12_goneTill 82 = .ok (.if_icmp .ge 8, 3) := by decide +kernel
theorem dX12_goneTill_85 : decode cX12_goneTill 85 = .ok (.iload 6, 2) := by decide +kernel
theorem dX12_goneTill_87 : decode cX12_goneTill 87 = .ok (.goto 5, 3) := by decide +kernel
theorem dX12_goneTill_90 : decode cX12_goneTill 90 = .ok (.iload 4, 2) := by decide +kernel
theorem dX12_goneTill_92 : decode cX12_goneTill 92 = .ok (.istore 4, 2) := by decide +kernel
theorem dX12_goneTill_94 : decode cX12_goneTill 94 = .ok (.iinc 5 1, 3) := by decide +kernel
theorem dX12_goneTill_97 : decode cX12_goneTill 97 = .ok (.goto (-68), 3) := by decide +kernel
theorem dX12_goneTill_100 : decode cX12_goneTill 100 = .ok (.iload 4, 2) := by decide +kernel
theorem dX12_goneTill_102 : decode cX12_goneTill 102 = .ok (.ireturn, 1) := by decide +kernel
theorem dX12_isRule_0 : decode cX12_isRule 0 = .ok (.iload_n 1, 1) := by decide +kernel
theorem dX12_isRule_1 : decode cX12_isRule 1 = .ok (.ifCond .lt 15, 3) := by decide +kernel
theorem dX12_isRule_4 : decode cX12_isRule 4 = .ok (.iload_n 1, 1) := by decide +kernel
theorem dX12_isRule_5 : decode cX12_isRule 5 = .ok (.aload_n 0, 1) := by decide +kernel
theorem dX12_isRule_6 : decode cX12_isRule 6 = .ok (.getfield 271, 3) := by decide +kernel
theorem dX12_isRule_9 : decode cX12_isRule 9 = .ok (.if_icmp .ge 7, 3) := by decide +kernel
theorem dX12_isRule_12 : decode cX12_isRule 12 = .ok (.iconst 1, 1) := by decide +kernel
theorem dX12_isRule_13 : decode cX12_isRule 13 = .ok (.goto 4, 3) := by decide +kernel
theorem dX12_isRule_16 : decode cX12_isRule 16 = .ok (.iconst 0, 1) := by decide +kernel
theorem dX12_isRule_17 : decode cX12_isRule 17 = .ok (.ireturn, 1) := by decide +kernel
set_option maxHeartbeats 4000000 in
set_option maxRecDepth 100000 in
theorem t_X12_four (l : Launch) (dC : Nat → ClassId) (dI : Nat → Nat → Nat) (tys : List (ClassId × FieldType)) (κ : tK) (B : Nat) (ws : va_W) (hT : Ty κ tys B ws) (a0 : Nat) (k_a0 : κ a0 = some 12) (a1 : Int32) (f0 : Int32) (l_f0 : 0 ≤ f0.toInt) (h_f0 : f0.toInt ≤ 396) (f_a0_X12_1 : fld ws a0 12 1 (.int f0)) (sz : Nat) : Met l yX12_four (ws_u yX12_four cX12_four 3 none) ({ frames := 0, cells := 0, slots := 0, locals := 0 }) (va_Pc [.ref a0, .int a1] (cPre (dC, dI) tys ws sz)) (va_Qv (fun (w : va_W) => Ty κ tys B w ∧ Sm [(12, 1)] [54] κ ws w ∧ (∃ (xt : Int32), 0 ≤ xt.toInt ∧ xt.toInt ≤ 400 ∧ fld w a0 12 1 (.int xt) ∧ xt.toInt = f0.toInt + 4)) (fun w t => cPost (dC, dI) tys w (va_A ws sz) t) (va_A ws sz)) 0 0 (va_A ws sz) := by
  refine Met.ofW (cc := cX12_four) (maxL := 3) (ret := none) (by decide) rfl ?_
  intro p e s m args below meth c s₁ B0 hml hv
  obtain ⟨rfl, hsz, hP, hK, hD0, hE⟩ := hv
  have hx := B0.exec
  have hb := B0.bytes
  have hr := B0.returns
  have hts0 := atoms_spec (ws := ws_u yX12_four cX12_four 3 none) B0.pre
  have hts : ∀ w ∈ gT, w.before _ s = true := fun w h => hts0 w (List.mem_cons_of_mem _ h)
  have hown : s.vm.findClass RX12 = some m.cls := findClass_of_methodNamed B0.named
  have hlocks := B0.notSynchronized
  subst hsz
  have hD := hD0.self (sz := s.heap.size)
  generalize hAe : va_A ws s.heap.size = A at hD ⊢
  have hA : ∀ q : Nat, s.heap.size ≤ q → A q := fun q h => by rw [← hAe]; exact Or.inr h
  have hw : tW (dC, dI) tys κ B A s ws s.heap [] := ⟨hK, hP, hD, va_S.rf, hT⟩
  have hM : Sm [(12, 1)] [54] κ ws ws := Sm.rf
  clear hP hK hD hD0 hts0
  have l_a1 := i32_lo a1
  have h_a1 := i32_hi a1
  have hl := lv_entry ([.ref a0, .int a1]) (n := 3) (Nat.le_of_ble_eq_true rfl)
  rw [lg_entry_eq]
  generalize (lg_sl ([.ref a0, .int a1]) ++ List.replicate (3 - (lg_sl ([.ref a0, .int a1])).length) Slot.unset).toArray = ls at hl ⊢
  have hl : lv_has ls 3 [(0, .ref a0), (1, .int a1)] := hl
  refine t_start (fun QQ hQ => ?_)
  refine lv_bipush (v := 24) hx hb dX12_four_0 (by decide) ?_
  refine lv_istore_n (lv' := [(2, .int 24), (0, .ref a0), (1, .int a1)]) hx hb dX12_four_2 rfl hl (by decide) rfl (fun ls hl => ?_)
  have J3 : ∀ (n : Nat) (H : Heap) (locs : List Loc) (ls : Array Slot), (∃ (w3 : va_W) (p3_l2 : Int32) (p3_m_a0_X12_1 : Int32), tW (dC, dI) tys κ B A s w3 H locs ∧ Sm [(12, 1)] [54] κ ws w3 ∧ (-8) ≤ p3_l2.toInt ∧ p3_l2.toInt ≤ 24 ∧ 0 ≤ p3_m_a0_X12_1.toInt ∧ p3_m_a0_X12_1.toInt ≤ 400 ∧ fld w3 a0 12 1 (.int p3_m_a0_X12_1) ∧ 8 * p3_m_a0_X12_1.toInt + p3_l2.toInt = 8 * f0.toInt + 24 ∧ lv_has ls 3 [(0, .ref a0), (1, .int a1), (2, .int p3_l2)] ∧ (p3_l2.toInt - (-8)).toNat = n) → W p l e (headSpec (ws_u yX12_four cX12_four 3 none) ({ frames := 0, cells := 0, slots := 0, locals := 0 })).room s m ([.ref a0, .int a1] : List Value).toArray below meth c H locs 0 0 QQ (F0 m 3 ls []) := by
    refine loopT _ ?_
    intro n_3 H locs ls hI ih_3
    obtain ⟨w3, p3_l2, p3_m_a0_X12_1, hw, hM, l_p3_l2, h_p3_l2, l_p3_m_a0_X12_1, h_p3_m_a0_X12_1, f_a0_X12_1, li_3_0, hl, hn_3⟩ := hI
    refine lv_iload_n hx hb dX12_four_3 rfl (lv_at hl 2 rfl) ?_
    refine lv_if_lt (tgt := 36) hx hb dX12_four_4 (by decide) (fun c_4 => ?_) (fun c_4 => ?_)
    · simp only [fa_lt, fa_le, fa_eq, li_0] at c_4
      rw [hQ]
      refine W.widen (k := 0) (n := 0) (Nat.le_refl _) (Nat.le_refl _) ?_
      exact W.vret hx hb hr (fun t ht hW => ⟨⟨w3, rfl, ⟨hw.2.2.2.2, hM, ⟨p3_m_a0_X12_1, (by omega), (by omega), f_a0_X12_1, (by omega)⟩⟩, by rw [ht]; exact hw.2.1, va_K.moved hW.alike hw.1, hw.2.2.1⟩, hw.2.2.2.1.F ht⟩) hw.2.2.2.1.2.2 dX12_four_36
    · simp only [fa_lt, fa_le, fa_eq, li_0] at c_4
      refine lv_aload_n hx hb dX12_four_7 rfl (lv_at hl 0 rfl) ?_
      refine t_getr (k1 := 54) (ci := 12) (C := RX12) (T := TX12) (N := 38) hx hb hts iX12 hown hw k_a0 rfl rfl rfl 0 (by decide) (hts _ tw_1125) (fun _ h9 => h9) dX12_four_8 rfl (fun v8 k_v8 f_a0_X12_0 => ?_)
      refine lv_aload_n hx hb dX12_four_11 rfl (lv_at hl 0 rfl) ?_
      refine t_getk (ci := 12) (C := RX12) (T := TX12) (N := 38) hx hb hts iX12 hown hw rfl 1 (by decide) (hts _ tw_1126) (fun _ h9 => h9) dX12_four_12 f_a0_X12_1 ?_
      refine lv_iload_n hx hb dX12_four_15 rfl (lv_at hl 1 rfl) ?_
      refine lv_iload_n hx hb dX12_four_16 rfl (lv_at hl 2 rfl) ?_
      refine lv_ishr hx hb dX12_four_17 ?_
      refine lv_topi (fun v17 e_v17 => ?_)
      have l_v17 := i32_lo v17
      have h_v17 := i32_hi v17
      refine lv_i2b hx hb dX12_four_18 rfl ?_
      refine lv_topi (fun v18 e_v18 => ?_)
      have l_v18 := i32_lo v18
      have h_v18 := i32_hi v18
      refine t_bast hx hb hw k_v8 rfl rfl (by omega) (show p3_m_a0_X12_1.toInt < 400 by omega) (fun _ => rfl) dX12_four_19 (fun w_1 H locs hw u => ?_)
      have hM := hM.up3 u k_v8 (by decide)
      have f_a0_X12_1 := u.1 _ _ _ _ f_a0_X12_1
      have f_a0_X12_0 := u.1 _ _ _ _ f_a0_X12_0
      refine lv_aload_n hx hb dX12_four_20 rfl (lv_at hl 0 rfl) ?_
      refine lv_dup hx hb dX12_four_21 rfl ?_
      refine t_getk (ci := 12) (C := RX12) (T := TX12) (N := 38) hx hb hts iX12 hown hw rfl 1 (by decide) (hts _ tw_1126) (fun _ h9 => h9) dX12_four_22 f_a0_X12_1 ?_
      refine lv_iconst (v := 1) hx hb dX12_four_25 (by decide) ?_
      refine lv_iadd hx hb dX12_four_26 ?_
      refine lv_topi (fun v26 e_v26 => ?_)
      have e_v26 : v26.toInt = p3_m_a0_X12_1.toInt + 1 := ad_i e_v26 rfl li_1 (by omega) (by omega)
      refine t_put (ci := 12) (C := RX12) (T := TX12) (N := 38) (v := .int v26) hx hb hts iX12 tyX12 tyX12_ok nmX12 hown hw k_a0 rfl rfl rfl 1 (by decide) (hts _ tw_1126) (fun _ h9 => h9) rfl (tyX12_ok 1 (by decide)) rfl rfl (okV.int rfl (by omega) (by omega)) dX12_four_27 (fun w_2 H locs hw u => ?_)
      have hM := hM.up1 u (by decide)
      have f_a0_X12_1 := u.2.2
      have f_a0_X12_0 := u.1 _ _ _ _ f_a0_X12_0 (Or.inr (Or.inr (by decide)))
      obtain ⟨v30, e_v30⟩ : ∃ y : Int32, y = p3_l2 + (-8) := ⟨_, rfl⟩
      refine lv_iinc (v := v30) (lv' := [(2, .int v30), (0, .ref a0), (1, .int a1)]) hx hb dX12_four_30 hl (k := 2) rfl e_v30.symm (by decide) rfl (fun ls hl => ?_)
      have e_v30 : v30.toInt = p3_l2.toInt + (-8) := ad_i e_v30 rfl li_m8 (by omega) (by omega)
      refine lv_goto (tgt := 3) hx hb dX12_four_33 (by decide) ?_
      exact ih_3 _ _ _ _ (by omega) ⟨w_2, v30, v26, hw, hM, (by omega), (by omega), (by omega), (by omega), f_a0_X12_1, (by omega), (lv_sub hl [1, 2, 0] rfl), rfl⟩
  exact J3 _ _ _ _ ⟨ws, 24, f0, hw, hM, (by decide), (by decide), (by omega), (by omega), f_a0_X12_1, (by have := li_24; omega), (lv_sub hl [1, 2, 0] rfl), rfl⟩
set_option maxHeartbeats 4000000 in
set_option maxRecDepth 100000 in
theorem t_X12_feed (l : Launch) (dC : Nat → ClassId) (dI : Nat → Nat → Nat) (tys : List (ClassId × FieldType)) (κ : tK) (B : Nat) (ws : va_W) (hT : Ty κ tys B ws) (a0 : Nat) (k_a0 : κ a0 = some 12) (a1 : Int32) (a2 : Int32) (a3 : Int32) (a4 : Int32) (a5 : Int32) (sz : Nat) : Met l yX12_feed (ws_u yX12_feed cX12_feed 6 (some .int)) ({ frames := 1, cells := 0, slots := 0, locals := 22 }) (va_Pc [.ref a0, .int a1, .int a2, .int a3, .int a4, .int a5] (cPre (dC, dI) tys ws sz)) (va_Qi (fun (r : Int32) (w : va_W) => (-1) ≤ r.toInt ∧ r.toInt ≤ 420 ∧ Ty κ tys B w ∧ Sm [(12, 1)] [54] κ ws w) (fun w t => cPost (dC, dI) tys w (va_A ws sz) t) (va_A ws sz)) 0 0 (va_A ws sz) := by
  refine Met.ofW (cc := cX12_feed) (maxL := 6) (ret := (some .int)) (by decide) rfl ?_
  intro p e s m args below meth c s₁ B0 hml hv
  obtain ⟨rfl, hsz, hP, hK, hD0, hE⟩ := hv
  have hx := B0.exec
  have hb := B0.bytes
  have hr := B0.returns
  have hts0 := atoms_spec (ws := ws_u yX12_feed cX12_feed 6 (some .int)) B0.pre
  have hts : ∀ w ∈ gT, w.before _ s = true := fun w h => hts0 w (List.mem_cons_of_mem _ h)
  have hown : s.vm.findClass RX12 = some m.cls := findClass_of_methodNamed B0.named
  have hlocks := B0.notSynchronized
  subst hsz
  have hD := hD0.self (sz := s.heap.size)
  generalize hAe : va_A ws s.heap.size = A at hD ⊢
  have hA : ∀ q : Nat, s.heap.size ≤ q → A q := fun q h => by rw [← hAe]; exact Or.inr h
  have hw : tW (dC, dI) tys κ B A s ws s.heap [] := ⟨hK, hP, hD, va_S.rf, hT⟩
  have hM : Sm [(12, 1)] [54] κ ws ws := Sm.rf
  clear hP hK hD hD0 hts0
  have l_a1 := i32_lo a1
  have h_a1 := i32_hi a1
  have l_a2 := i32_lo a2
  have h_a2 := i32_hi a2
  have l_a3 := i32_lo a3
  have h_a3 := i32_hi a3
  have l_a4 := i32_lo a4
  have h_a4 := i32_hi a4
  have l_a5 := i32_lo a5
  have h_a5 := i32_hi a5
  have hl := lv_entry ([.ref a0, .int a1, .int a2, .int a3, .int a4, .int a5]) (n := 6) (Nat.le_of_ble_eq_true rfl)
  rw [lg_entry_eq]
  generalize (lg_sl ([.ref a0, .int a1, .int a2, .int a3, .int a4, .int a5]) ++ List.replicate (6 - (lg_sl ([.ref a0, .int a1, .int a2, .int a3, .int a4, .int a5])).length) Slot.unset).toArray = ls at hl ⊢
  have hl : lv_has ls 6 [(0, .ref a0), (1, .int a1), (2, .int a2), (3, .int a3), (4, .int a4), (5, .int a5)] := hl
  refine t_start (fun QQ hQ => ?_)
  refine lv_aload_n hx hb dX12_feed_0 rfl (lv_at hl 0 rfl) ?_
  refine t_geti (ci := 12) (C := RX12) (T := TX12) (N := 38) hx hb hts iX12 hown hw k_a0 rfl rfl rfl 1 (by decide) (hts _ tw_1126) (fun _ h9 => h9) dX12_feed_1 rfl (fun v1 l_v1 h_v1 f_a0_X12_1 => ?_)
  have l_v1 : 0 ≤ v1.toInt := l_v1
  have h_v1 : v1.toInt ≤ 400 := h_v1
  refine lv_bipush (v := 20) hx hb dX12_feed_4 (by decide) ?_
  refine lv_iadd hx hb dX12_feed_6 ?_
  refine lv_topi (fun v6 e_v6 => ?_)
  have e_v6 : v6.toInt = v1.toInt + 20 := ad_i e_v6 rfl li_20 (by omega) (by omega)
  refine lv_sipush (v := 400) hx hb dX12_feed_7 (by decide) ?_
  refine lv_icmp_le (tgt := 15) hx hb dX12_feed_10 (by decide) (fun c_10 => ?_) (fun c_10 => ?_)
  · simp only [fa_lt, fa_le, fa_eq, li_400] at c_10
    refine lv_aload_n hx hb dX12_feed_15 rfl (lv_at hl 0 rfl) ?_
    refine lv_iload_n hx hb dX12_feed_16 rfl (lv_at hl 1 rfl) ?_
    refine t_callv (va_runV (As := [.int a1]) (rest := []) ⟨hx, hb, hml, hown, hts⟩ (t_X12_four l dC dI tys κ B ws hw.2.2.2.2 a0 k_a0 a1 v1 (by omega) (by omega) f_a0_X12_1 s.heap.size) (cwV 1 hts (gUV tw_1244 tw_1246 ts_3_0 tw_13 tw_1247) rfl rfl rfl (by decide +kernel) ⟨(Nat.le_of_ble_eq_true rfl), (Nat.le_of_ble_eq_true rfl)⟩) ⟨cPre.blind, t_recv hw (ci := 12) k_a0 rfl rfl, cPre.use hw.2.1 hw.1 hw.2.2.1 hE⟩ rfl rfl hl.1 rfl (lv_room (Nat.le_of_ble_eq_true rfl)) dX12_feed_17 ⟨(Nat.le_of_ble_eq_true rfl), (Nat.le_of_ble_eq_true rfl)⟩) hw hA (fun _ h => h.1) (fun w_1 H locs hp hw => ?_)
    obtain ⟨_, hm, ⟨v17t, l_v17t, h_v17t, f_a0_X12_1, y_v17⟩⟩ := hp
    have hM := hM.trans hm (by decide) (by decide)
    refine lv_aload_n hx hb dX12_feed_20 rfl (lv_at hl 0 rfl) ?_
    refine lv_iload_n hx hb dX12_feed_21 rfl (lv_at hl 2 rfl) ?_
    refine t_callv (va_runV (As := [.int a2]) (rest := []) ⟨hx, hb, hml, hown, hts⟩ (t_X12_four l dC dI tys κ B w_1 hw.2.2.2.2 a0 k_a0 a2 v17t (by omega) (by omega) f_a0_X12_1 H.size) (cwV 1 hts (gUV tw_1244 tw_1246 ts_3_0 tw_13 tw_1247) rfl rfl rfl (by decide +kernel) ⟨(Nat.le_of_ble_eq_true rfl), (Nat.le_of_ble_eq_true rfl)⟩) ⟨cPre.blind, t_recv hw (ci := 12) k_a0 rfl rfl, cPre.use hw.2.1 hw.1 hw.2.2.1 hE⟩ rfl rfl hl.1 rfl (lv_room (Nat.le_of_ble_eq_true rfl)) dX12_feed_22 ⟨(Nat.le_of_ble_eq_true rfl), (Nat.le_of_ble_eq_true rfl)⟩) hw hA (fun _ h => h.1) (fun w_2 H locs hp hw => ?_)
    obtain ⟨_, hm, ⟨v22t, l_v22t, h_v22t, f_a0_X12_1, y_v22⟩⟩ := hp
    have hM := hM.trans hm (by decide) (by decide)
    refine lv_aload_n hx hb dX12_feed_25 rfl (lv_at hl 0 rfl) ?_
    refine lv_iload_n hx hb dX12_feed_26 rfl (lv_at hl 3 rfl) ?_
    refine t_callv (va_runV (As := [.int a3]) (rest := []) ⟨hx, hb, hml, hown, hts⟩ (t_X12_four l dC dI tys κ B w_2 hw.2.2.2.2 a0 k_a0 a3 v22t (by omega) (by omega) f_a0_X12_1 H.size) (cwV 1 hts (gUV tw_1244 tw_1246 ts_3_0 tw_13 tw_1247) rfl rfl rfl (by decide +kernel) ⟨(Nat.le_of_ble_eq_true rfl), (Nat.le_of_ble_eq_true rfl)⟩) ⟨cPre.blind, t_recv hw (ci := 12) k_a0 rfl rfl, cPre.use hw.2.1 hw.1 hw.2.2.1 hE⟩ rfl rfl hl.1 rfl (lv_room (Nat.le_of_ble_eq_true rfl)) dX12_feed_27 ⟨(Nat.le_of_ble_eq_true rfl), (Nat.le_of_ble_eq_true rfl)⟩) hw hA (fun _ h => h.1) (fun w_3 H locs hp hw => ?_)
    obtain ⟨_, hm, ⟨v27t, l_v27t, h_v27t, f_a0_X12_1, y_v27⟩⟩ := hp
    have hM := hM.trans hm (by decide) (by decide)
    refine lv_aload_n hx hb dX12_feed_30 rfl (lv_at hl 0 rfl) ?_
    refine lv_iload hx hb dX12_feed_31 (lv_at hl 4 rfl) ?_
    refine t_callv (va_runV (As := [.int a4]) (rest := []) ⟨hx, hb, hml, hown, hts⟩ (t_X12_four l dC dI tys κ B w_3 hw.2.2.2.2 a0 k_a0 a4 v27t (by omega) (by omega) f_a0_X12_1 H.size) (cwV 1 hts (gUV tw_1244 tw_1246 ts_3_0 tw_13 tw_1247) rfl rfl rfl (by decide +kernel) ⟨(Nat.le_of_ble_eq_true rfl), (Nat.le_of_ble_eq_true rfl)⟩) ⟨cPre.blind, t_recv hw (ci := 12) k_a0 rfl rfl, cPre.use hw.2.1 hw.1 hw.2.2.1 hE⟩ rfl rfl hl.1 rfl (lv_room (Nat.le_of_ble_eq_true rfl)) dX12_feed_33 ⟨(Nat.le_of_ble_eq_true rfl), (Nat.le_of_ble_eq_true rfl)⟩) hw hA (fun _ h => h.1) (fun w_4 H locs hp hw => ?_)
    obtain ⟨_, hm, ⟨v33t, l_v33t, h_v33t, f_a0_X12_1, y_v33⟩⟩ := hp
    have hM := hM.trans hm (by decide) (by decide)
    refine lv_aload_n hx hb dX12_feed_36 rfl (lv_at hl 0 rfl) ?_
    refine lv_iload hx hb dX12_feed_37 (lv_at hl 5 rfl) ?_
    refine t_callv (va_runV (As := [.int a5]) (rest := []) ⟨hx, hb, hml, hown, hts⟩ (t_X12_four l dC dI tys κ B w_4 hw.2.2.2.2 a0 k_a0 a5 v33t (by omega) (by omega) f_a0_X12_1 H.size) (cwV 1 hts (gUV tw_1244 tw_1246 ts_3_0 tw_13 tw_1247) rfl rfl rfl (by decide +kernel) ⟨(Nat.le_of_ble_eq_true rfl), (Nat.le_of_ble_eq_true rfl)⟩) ⟨cPre.blind, t_recv hw (ci := 12) k_a0 rfl rfl, cPre.use hw.2.1 hw.1 hw.2.2.1 hE⟩ rfl rfl hl.1 rfl (lv_room (Nat.le_of_ble_eq_true rfl)) dX12_feed_39 ⟨(Nat.le_of_ble_eq_true rfl), (Nat.le_of_ble_eq_true rfl)⟩) hw hA (fun _ h => h.1) (fun w_5 H locs hp hw => ?_)
    obtain ⟨_, hm, ⟨v39t, l_v39t, h_v39t, f_a0_X12_1, y_v39⟩⟩ := hp
    have hM := hM.trans hm (by decide) (by decide)
    refine lv_aload_n hx hb dX12_feed_42 rfl (lv_at hl 0 rfl) ?_
    refine t_getk (ci := 12) (C := RX12) (T := TX12) (N := 38) hx hb hts iX12 hown hw rfl 1 (by decide) (hts _ tw_1126) (fun _ h9 => h9) dX12_feed_43 f_a0_X12_1 ?_
    rw [hQ]
    refine W.widen (k := 0) (n := 0) (Nat.le_refl _) (Nat.le_refl _) ?_
    exact W.iret (v := v39t) hx hb hr (fun t ht hW => ⟨⟨v39t, w_5, rfl, ⟨(by omega), (by omega), hw.2.2.2.2, hM⟩, by rw [ht]; exact hw.2.1, va_K.moved hW.alike hw.1, hw.2.2.1⟩, hw.2.2.2.1.F ht⟩) hw.2.2.2.1.2.2 dX12_feed_46
  · simp only [fa_lt, fa_le, fa_eq, li_400] at c_10
    refine lv_iconst (v := (-1)) hx hb dX12_feed_13 (by decide) ?_
    rw [hQ]
    refine W.widen (k := 0) (n := 0) (Nat.le_refl _) (Nat.le_refl _) ?_
    exact W.iret (v := (-1)) hx hb hr (fun t ht hW => ⟨⟨(-1), ws, rfl, ⟨(by decide), (by decide), hw.2.2.2.2, hM⟩, by rw [ht]; exact hw.2.1, va_K.moved hW.alike hw.1, hw.2.2.1⟩, hw.2.2.2.1.F ht⟩) hw.2.2.2.1.2.2 dX12_feed_14
set_option maxHeartbeats 4000000 in
set_option maxRecDepth 100000 in
theorem t_X12_fillsFits (l : Launch) (dC : Nat → ClassId) (dI : Nat → Nat → Nat) (tys : List (ClassId × FieldType)) (κ : tK) (B : Nat) (ws : va_W) (hT : Ty κ tys B ws) (a0 : Nat) (k_a0 : κ a0 = some 12) (f0 : Nat) (k_f0 : κ f0 = some 63) (f_a0_X12_20 : fld ws a0 12 20 (.ref f0)) (f1 : Int32) (l_f1 : 0 ≤ f1.toInt) (h_f1 : f1.toInt ≤ 999) (f_f0_M_said_10 : elt ws f0 (10 : Int32).toInt.toNat f1) (sz : Nat) : Met l yX12_fillsFits (ws_u yX12_fillsFits cX12_fillsFits 5 none) ({ frames := 20, cells := 0, slots := 0, locals := 586 }) (va_Pc [.ref a0] (cPre (dC, dI) tys ws sz)) (va_Qv (fun (w : va_W) => Ty κ tys B w ∧ Sm [(12, 18), (12, 21), (12, 24)] [61, 62, 63, 64, 66, 70, 71] κ ws w ∧ (∃ (xd : Int32), 0 ≤ xd.toInt ∧ xd.toInt ≤ 999 ∧ elt w f0 (10 : Int32).toInt.toNat xd)) (fun w t => cPost (dC, dI) tys w (va_A ws sz) t) (va_A ws sz)) 0 0 (va_A ws sz) := by
  refine Met.ofW (cc := cX12_fillsFits) (maxL := 5) (ret := none) (by decide) rfl ?_
  intro p e s m args below meth c s₁ B0 hml hv
  obtain ⟨rfl, hsz, hP, hK, hD0, hE⟩ := hv
  have hx := B0.exec
  have hb := B0.bytes
  have hr := B0.returns
  have hts0 := atoms_spec (ws := ws_u yX12_fillsFits cX12_fillsFits 5 none) B0.pre
  have hts : ∀ w ∈ gT, w.before _ s = true := fun w h => hts0 w (List.mem_cons_of_mem _ h)
  have hown : s.vm.findClass RX12 = some m.cls := findClass_of_methodNamed B0.named
  have hlocks := B0.notSynchronized
  subst hsz
  have hD := hD0.self (sz := s.heap.size)
  generalize hAe : va_A ws s.heap.size = A at hD ⊢
  have hA : ∀ q : Nat, s.heap.size ≤ q → A q := fun q h => by rw [← hAe]; exact Or.inr h
  have hw : tW (dC, dI) tys κ B A s ws s.heap [] := ⟨hK, hP, hD, va_S.rf, hT⟩
  have hM : Sm [(12, 18), (12, 21), (12, 24)] [61, 62, 63, 64, 66, 70, 71] κ ws ws := Sm.rf
  clear hP hK hD hD0 hts0
  have hl := lv_entry ([.ref a0]) (n := 5) (Nat.le_of_ble_eq_true rfl)
  rw [lg_entry_eq]
  generalize (lg_sl ([.ref a0]) ++ List.replicate (5 - (lg_sl ([.ref a0])).length) Slot.unset).toArray = ls at hl ⊢
  have hl : lv_has ls 5 [(0, .ref a0)] := hl
  refine t_start (fun QQ hQ => ?_)
  refine lv_aload_n hx hb dX12_fillsFits_0 rfl (lv_at hl 0 rfl) ?_
  refine t_geti (ci := 12) (C := RX12) (T := TX12) (N := 38) hx hb hts iX12 hown hw k_a0 rfl rfl rfl 21 (by decide) (hts _ tw_1146) (fun _ h9 => h9) dX12_fillsFits_1 rfl (fun v1 l_v1 h_v1 f_a0_X12_21 => ?_)
  have l_v1 : (-1) ≤ v1.toInt := l_v1
  have h_v1 : v1.toInt ≤ 5 := h_v1
  refine lv_istore_n (lv' := [(1, .int v1), (0, .ref a0)]) hx hb dX12_fillsFits_4 rfl hl (by decide) rfl (fun ls hl => ?_)
  refine lv_aload_n hx hb dX12_fillsFits_5 rfl (lv_at hl 1 rfl) ?_
  refine t_callv (va_runV (As := []) (rest := []) ⟨hx, hb, hml, hown, hts⟩ (t_X12_keeps l dC dI tys κ B ws hw.2.2.2.2 a0 k_a0 f0 k_f0 f_a0_X12_20 f1 (by omega) (by omega) f_f0_M_said_10 s.heap.size) (cwV 0 hts (gUV tw_1598 tw_1600 ts_7_0 tw_13 tw_1601) rfl rfl rfl (by decide +kernel) ⟨(Nat.le_of_ble_eq_true rfl), (Nat.le_of_ble_eq_true rfl)⟩) ⟨cPre.blind, t_recv hw (ci := 12) k_a0 rfl rfl, cPre.use hw.2.1 hw.1 hw.2.2.1 hE⟩ rfl rfl hl.1 rfl (lv_room (Nat.le_of_ble_eq_true rfl)) dX12_fillsFits_6 ⟨(Nat.le_of_ble_eq_true rfl), (Nat.le_of_ble_eq_true rfl)⟩) hw hA (fun _ h => h.1) (fun w_1 H locs hp hw => ?_)
  obtain ⟨_, hm⟩ := hp
  have hM := hM.trans hm (by decide) (by decide)
  have f_a0_X12_20 := hm.1 _ _ _ _ f_a0_X12_20 (by decide)
  have f_f0_M_said_10 := hm.elt k_f0 (by decide) f_f0_M_said_10
  have f_a0_X12_21 := hm.1 _ _ _ _ f_a0_X12_21 (by decide)
  refine lv_iconst (v := 0) hx hb dX12_fillsFits_9 (by decide) ?_
  refine lv_istore_n (lv' := [(2, .int 0), (1, .int v1), (0, .ref a0)]) hx hb dX12_fillsFits_10 rfl hl (by decide) rfl (fun ls hl => ?_)
  have J11 : ∀ (n : Nat) (H : Heap) (locs : List Loc) (ls : Array Slot), (∃ (w11 : va_W) (p11_l2 : Int32) (p11_m_a0_X12_21 : Int32) (p11_m_f0_M_said_10 : Int32), tW (dC, dI) tys κ B A s w11 H locs ∧ Sm [(12, 18), (12, 21), (12, 24)] [61, 62, 63, 64, 66, 70, 71] κ ws w11 ∧ 0 ≤ p11_l2.toInt ∧ p11_l2.toInt ≤ 7 ∧ (-1) ≤ p11_m_a0_X12_21.toInt ∧ p11_m_a0_X12_21.toInt ≤ 5 ∧ 0 ≤ p11_m_f0_M_said_10.toInt ∧ p11_m_f0_M_said_10.toInt ≤ 1999 ∧ fld w11 a0 12 20 (.ref f0) ∧ fld w11 a0 12 21 (.int p11_m_a0_X12_21) ∧ elt w11 f0 (10 : Int32).toInt.toNat p11_m_f0_M_said_10 ∧ lv_has ls 5 [(0, .ref a0), (1, .int v1), (2, .int p11_l2)] ∧ (7 - p11_l2.toInt).toNat = n) → W p l e (headSpec (ws_u yX12_fillsFits cX12_fillsFits 5 none) ({ frames := 20, cells := 0, slots := 0, locals := 586 })).room s m ([.ref a0] : List Value).toArray below meth c H locs 0 0 QQ (F0 m 11 ls []) := by
    refine loopT _ ?_
    intro n_11 H locs ls hI ih_11
    obtain ⟨w11, p11_l2, p11_m_a0_X12_21, p11_m_f0_M_said_10, hw, hM, l_p11_l2, h_p11_l2, l_p11_m_a0_X12_21, h_p11_m_a0_X12_21, l_p11_m_f0_M_said_10, h_p11_m_f0_M_said_10, f_a0_X12_20, f_a0_X12_21, f_f0_M_said_10, hl, hn_11⟩ := hI
    refine lv_iload_n hx hb dX12_fillsFits_11 rfl (lv_at hl 2 rfl) ?_
    refine lv_aload_n hx hb dX12_fillsFits_12 rfl (lv_at hl 0 rfl) ?_
    refine t_geti (ci := 12) (C := RX12) (T := TX12) (N := 38) hx hb hts iX12 hown hw k_a0 rfl rfl rfl 2 (by decide) (hts _ tw_1127) (fun _ h9 => h9) dX12_fillsFits_13 rfl (fun v13 l_v13 h_v13 f_a0_X12_2 => ?_)
    have l_v13 : 0 ≤ v13.toInt := l_v13
    have h_v13 : v13.toInt ≤ 6 := h_v13
    refine lv_icmp_gt (tgt := 152) hx hb dX12_fillsFits_16 (by decide) (fun c_16 => ?_) (fun c_16 => ?_)
    · simp only [fa_lt, fa_le, fa_eq] at c_16
      refine lv_aload_n hx hb dX12_fillsFits_152 rfl (lv_at hl 0 rfl) ?_
      refine lv_iload_n hx hb dX12_fillsFits_153 rfl (lv_at hl 1 rfl) ?_
      refine t_put (ci := 12) (C := RX12) (T := TX12) (N := 38) (v := .int v1) hx hb hts iX12 tyX12 tyX12_ok nmX12 hown hw k_a0 rfl rfl rfl 21 (by decide) (hts _ tw_1146) (fun _ h9 => h9) rfl (tyX12_ok 21 (by decide)) rfl rfl (okV.int rfl (by omega) (by omega)) dX12_fillsFits_154 (fun w_2 H locs hw u => ?_)
      have hM := hM.up1 u (by decide)
      have f_a0_X12_20 := u.1 _ _ _ _ f_a0_X12_20 (Or.inr (Or.inr (by decide)))
      have f_a0_X12_21 := u.2.2
      have f_f0_M_said_10 := u.elt f_f0_M_said_10
      have f_a0_X12_2 := u.1 _ _ _ _ f_a0_X12_2 (Or.inr (Or.inr (by decide)))
      refine lv_aload_n hx hb dX12_fillsFits_157 rfl (lv_at hl 0 rfl) ?_
      refine t_callv (va_runV (As := []) (rest := []) ⟨hx, hb, hml, hown, hts⟩ (t_X12_laysBack l dC dI tys κ B w_2 hw.2.2.2.2 a0 k_a0 f0 k_f0 f_a0_X12_20 H.size) (cwV 0 hts (gUV tw_1602 tw_1604 ts_7_1 tw_13 tw_1605) rfl rfl rfl (by decide +kernel) ⟨(Nat.le_of_ble_eq_true rfl), (Nat.le_of_ble_eq_true rfl)⟩) ⟨cPre.blind, t_recv hw (ci := 12) k_a0 rfl rfl, cPre.use hw.2.1 hw.1 hw.2.2.1 hE⟩ rfl rfl hl.1 rfl (lv_room (Nat.le_of_ble_eq_true rfl)) dX12_fillsFits_158 ⟨(Nat.le_of_ble_eq_true rfl), (Nat.le_of_ble_eq_true rfl)⟩) hw hA (fun _ h => h.1) (fun w_3 H locs hp hw => ?_)
      obtain ⟨_, hm, ⟨v158d, l_v158d, h_v158d, f_f0_M_said_10⟩⟩ := hp
      have hM := hM.trans hm (by decide) (by decide)
      have f_a0_X12_20 := hm.1 _ _ _ _ f_a0_X12_20 (by decide)
      have f_a0_X12_21 := hm.1 _ _ _ _ f_a0_X12_21 (by decide)
      have f_a0_X12_2 := hm.1 _ _ _ _ f_a0_X12_2 (by decide)
      rw [hQ]
      refine W.widen (k := 0) (n := 0) (Nat.le_refl _) (Nat.le_refl _) ?_
      exact W.vret hx hb hr (fun t ht hW => ⟨⟨w_3, rfl, ⟨hw.2.2.2.2, hM, ⟨v158d, (by omega), (by omega), f_f0_M_said_10⟩⟩, by rw [ht]; exact hw.2.1, va_K.moved hW.alike hw.1, hw.2.2.1⟩, hw.2.2.2.1.F ht⟩) hw.2.2.2.1.2.2 dX12_fillsFits_161
    · simp only [fa_lt, fa_le, fa_eq] at c_16
      refine lv_aload_n hx hb dX12_fillsFits_19 rfl (lv_at hl 0 rfl) ?_
      refine lv_iload_n hx hb dX12_fillsFits_20 rfl (lv_at hl 2 rfl) ?_
      refine lv_iconst (v := 1) hx hb dX12_fillsFits_21 (by decide) ?_
      refine lv_isub hx hb dX12_fillsFits_22 ?_
      refine lv_topi (fun v22 e_v22 => ?_)
      have e_v22 : v22.toInt = p11_l2.toInt - 1 := sb_i e_v22 rfl li_1 (by omega) (by omega)
      refine t_put (ci := 12) (C := RX12) (T := TX12) (N := 38) (v := .int v22) hx hb hts iX12 tyX12 tyX12_ok nmX12 hown hw k_a0 rfl rfl rfl 21 (by decide) (hts _ tw_1146) (fun _ h9 => h9) rfl (tyX12_ok 21 (by decide)) rfl rfl (okV.int rfl (by omega) (by omega)) dX12_fillsFits_23 (fun w_4 H locs hw u => ?_)
      have hM := hM.up1 u (by decide)
      have f_a0_X12_20 := u.1 _ _ _ _ f_a0_X12_20 (Or.inr (Or.inr (by decide)))
      have f_a0_X12_21 := u.2.2
      have f_f0_M_said_10 := u.elt f_f0_M_said_10
      have f_a0_X12_2 := u.1 _ _ _ _ f_a0_X12_2 (Or.inr (Or.inr (by decide)))
      refine lv_aload_n hx hb dX12_fillsFits_26 rfl (lv_at hl 0 rfl) ?_
      refine t_callv (va_runV (As := []) (rest := []) ⟨hx, hb, hml, hown, hts⟩ (t_X12_begins l dC dI tys κ B w_4 hw.2.2.2.2 a0 k_a0 f0 k_f0 f_a0_X12_20 H.size) (cwV 0 hts (gUV tw_1432 tw_1434 ts_5_5 tw_13 tw_1435) rfl rfl rfl (by decide +kernel) ⟨(Nat.le_of_ble_eq_true rfl), (Nat.le_of_ble_eq_true rfl)⟩) ⟨cPre.blind, t_recv hw (ci := 12) k_a0 rfl rfl, cPre.use hw.2.1 hw.1 hw.2.2.1 hE⟩ rfl rfl hl.1 rfl (lv_room (Nat.le_of_ble_eq_true rfl)) dX12_fillsFits_27 ⟨(Nat.le_of_ble_eq_true rfl), (Nat.le_of_ble_eq_true rfl)⟩) hw hA (fun _ h => h.1) (fun w_5 H locs hp hw => ?_)
      obtain ⟨_, hm, ⟨v27d, l_v27d, h_v27d, f_f0_M_said_10⟩⟩ := hp
      have hM := hM.trans hm (by decide) (by decide)
      have f_a0_X12_20 := hm.1 _ _ _ _ f_a0_X12_20 (by decide)
      have f_a0_X12_21 := hm.1 _ _ _ _ f_a0_X12_21 (by decide)
      have f_a0_X12_2 := hm.1 _ _ _ _ f_a0_X12_2 (by decide)
      refine lv_iconst (v := 0) hx hb dX12_fillsFits_30 (by decide) ?_
      refine lv_istore_n (lv' := [(3, .int 0), (0, .ref a0), (1, .int v1), (2, .int p11_l2)]) hx hb dX12_fillsFits_31 rfl hl (by decide) rfl (fun ls hl => ?_)
      have J32 : ∀ (n : Nat) (H : Heap) (locs : List Loc) (ls : Array Slot), (∃ (w32 : va_W) (p32_l3 : Int32) (p32_m_f0_M_said_10 : Int32), tW (dC, dI) tys κ B A s w32 H locs ∧ Sm [(12, 18), (12, 21), (12, 24)] [61, 62, 63, 64, 66, 70, 71] κ ws w32 ∧ 0 ≤ p32_l3.toInt ∧ p32_l3.toInt ≤ 61 ∧ 0 ≤ p32_m_f0_M_said_10.toInt ∧ p32_m_f0_M_said_10.toInt ≤ 1999 ∧ fld w32 a0 12 2 (.int v13) ∧ fld w32 a0 12 20 (.ref f0) ∧ fld w32 a0 12 21 (.int v22) ∧ elt w32 f0 (10 : Int32).toInt.toNat p32_m_f0_M_said_10 ∧ p32_m_f0_M_said_10.toInt ≤ p32_l3.toInt ∧ lv_has ls 5 [(0, .ref a0), (1, .int v1), (2, .int p11_l2), (3, .int p32_l3)] ∧ (61 - p32_l3.toInt).toNat = n) → W p l e (headSpec (ws_u yX12_fillsFits cX12_fillsFits 5 none) ({ frames := 20, cells := 0, slots := 0, locals := 586 })).room s m ([.ref a0] : List Value).toArray below meth c H locs 0 0 QQ (F0 m 32 ls []) := by
        refine loopT _ ?_
        intro n_32 H locs ls hI ih_32
        obtain ⟨w32, p32_l3, p32_m_f0_M_said_10, hw, hM, l_p32_l3, h_p32_l3, l_p32_m_f0_M_said_10, h_p32_m_f0_M_said_10, f_a0_X12_2, f_a0_X12_20, f_a0_X12_21, f_f0_M_said_10, li_32_0, hl, hn_32⟩ := hI
        refine lv_iload_n hx hb dX12_fillsFits_32 rfl (lv_at hl 3 rfl) ?_
        refine lv_bipush (v := 60) hx hb dX12_fillsFits_33 (by decide) ?_
        refine lv_icmp_gt (tgt := 65) hx hb dX12_fillsFits_35 (by decide) (fun c_35 => ?_) (fun c_35 => ?_)
        · simp only [fa_lt, fa_le, fa_eq, li_60] at c_35
          refine lv_iconst (v := 1) hx hb dX12_fillsFits_65 (by decide) ?_
          refine lv_istore_n (lv' := [(3, .int 1), (0, .ref a0), (1, .int v1), (2, .int p11_l2)]) hx hb dX12_fillsFits_66 rfl hl (by decide) rfl (fun ls hl => ?_)
          refine lv_iconst (v := 0) hx hb dX12_fillsFits_67 (by decide) ?_
          refine lv_istore (lv' := [(4, .int 0), (3, .int 1), (0, .ref a0), (1, .int v1), (2, .int p11_l2)]) hx hb dX12_fillsFits_68 hl (by decide) rfl (fun ls hl => ?_)
          have J70 : ∀ (n : Nat) (H : Heap) (locs : List Loc) (ls : Array Slot), (∃ (w70 : va_W) (p70_l3 : Int32) (p70_l4 : Int32), tW (dC, dI) tys κ B A s w70 H locs ∧ Sm [(12, 18), (12, 21), (12, 24)] [61, 62, 63, 64, 66, 70, 71] κ ws w70 ∧ 0 ≤ p70_l3.toInt ∧ p70_l3.toInt ≤ 1 ∧ 0 ≤ p70_l4.toInt ∧ p70_l4.toInt ≤ 10 ∧ fld w70 a0 12 2 (.int v13) ∧ fld w70 a0 12 20 (.ref f0) ∧ fld w70 a0 12 21 (.int v22) ∧ elt w70 f0 (10 : Int32).toInt.toNat p32_m_f0_M_said_10 ∧ lv_has ls 5 [(0, .ref a0), (1, .int v1), (2, .int p11_l2), (3, .int p70_l3), (4, .int p70_l4)] ∧ (10 - p70_l4.toInt).toNat = n) → W p l e (headSpec (ws_u yX12_fillsFits cX12_fillsFits 5 none) ({ frames := 20, cells := 0, slots := 0, locals := 586 })).room s m ([.ref a0] : List Value).toArray below meth c H locs 0 0 QQ (F0 m 70 ls []) := by
            refine loopT _ ?_
            intro n_70 H locs ls hI ih_70
            obtain ⟨w70, p70_l3, p70_l4, hw, hM, l_p70_l3, h_p70_l3, l_p70_l4, h_p70_l4, f_a0_X12_2, f_a0_X12_20, f_a0_X12_21, f_f0_M_said_10, hl, hn_70⟩ := hI
            refine lv_iload hx hb dX12_fillsFits_70 (lv_at hl 4 rfl) ?_
            refine lv_aload_n hx hb dX12_fillsFits_72 rfl (lv_at hl 0 rfl) ?_
            refine t_getk (ci := 12) (C := RX12) (T := TX12) (N := 38) hx hb hts iX12 hown hw rfl 20 (by decide) (hts _ tw_1145) (fun _ h9 => h9) dX12_fillsFits_73 f_a0_X12_20 ?_
            refine lv_sipush (v := 305) hx hb dX12_fillsFits_76 (by decide) ?_
            refine t_iald hx hb hw k_f0 rfl rfl (by decide) (by decide) dX12_fillsFits_79 (fun v79 r_v79 s_v79 f_f0_M_said_305 => ?_)
            have l_v79 : 0 ≤ v79.toInt := by rw [iv_63_305] at r_v79; exact r_v79
            have h_v79 : v79.toInt ≤ 10 := by rw [iv_63_305] at s_v79; exact s_v79
            refine lv_icmp_ge (tgt := 139) hx hb dX12_fillsFits_80 (by decide) (fun c_80 => ?_) (fun c_80 => ?_)
            · simp only [fa_lt, fa_le, fa_eq] at c_80
              refine lv_aload_n hx hb dX12_fillsFits_139 rfl (lv_at hl 0 rfl) ?_
              refine t_getr (k1 := 70) (ci := 12) (C := RX12) (T := TX12) (N := 38) hx hb hts iX12 hown hw k_a0 rfl rfl rfl 31 (by decide) (hts _ tw_1156) (fun _ h9 => h9) dX12_fillsFits_140 rfl (fun v140 k_v140 f_a0_X12_31 => ?_)
              refine lv_iload_n hx hb dX12_fillsFits_143 rfl (lv_at hl 2 rfl) ?_
              refine lv_iload_n hx hb dX12_fillsFits_144 rfl (lv_at hl 3 rfl) ?_
              refine t_zast hx hb hw k_v140 rfl rfl (by omega) (show p11_l2.toInt < 7 by omega) (fun _ => rfl) dX12_fillsFits_145 (fun w_6 H locs hw u => ?_)
              have hM := hM.up3 u k_v140 (by decide)
              have f_a0_X12_2 := u.1 _ _ _ _ f_a0_X12_2
              have f_a0_X12_20 := u.1 _ _ _ _ f_a0_X12_20
              have f_a0_X12_21 := u.1 _ _ _ _ f_a0_X12_21
              have f_f0_M_said_10 := u.2.2.1 _ _ _ f_f0_M_said_10 (Or.inl (ne_k k_f0 k_v140 (by decide)))
              have f_f0_M_said_305 := u.2.2.1 _ _ _ f_f0_M_said_305 (Or.inl (ne_k k_f0 k_v140 (by decide)))
              have f_a0_X12_31 := u.1 _ _ _ _ f_a0_X12_31
              obtain ⟨v146, e_v146⟩ : ∃ y : Int32, y = p11_l2 + 1 := ⟨_, rfl⟩
              refine lv_iinc (v := v146) (lv' := [(2, .int v146), (0, .ref a0), (1, .int v1), (3, .int p70_l3), (4, .int p70_l4)]) hx hb dX12_fillsFits_146 hl (k := 2) rfl e_v146.symm (by decide) rfl (fun ls hl => ?_)
              have e_v146 : v146.toInt = p11_l2.toInt + 1 := ad_i e_v146 rfl li_1 (by omega) (by omega)
              refine lv_goto (tgt := 11) hx hb dX12_fillsFits_149 (by decide) ?_
              exact ih_11 _ _ _ _ (by omega) ⟨w_6, v146, v22, p32_m_f0_M_said_10, hw, hM, (by omega), (by omega), (by omega), (by omega), (by omega), (by omega), f_a0_X12_20, f_a0_X12_21, f_f0_M_said_10, (lv_sub hl [1, 2, 0] rfl), rfl⟩
            · simp only [fa_lt, fa_le, fa_eq] at c_80
              refine lv_iload_n hx hb dX12_fillsFits_83 rfl (lv_at hl 3 rfl) ?_
              have J132 : ∀ (H : Heap) (locs : List Loc) (ls : Array Slot) (w132 : va_W) (p132_s0 : Int32), tW (dC, dI) tys κ B A s w132 H locs → Sm [(12, 18), (12, 21), (12, 24)] [61, 62, 63, 64, 66, 70, 71] κ ws w132 → 0 ≤ p132_s0.toInt → p132_s0.toInt ≤ 1 → fld w132 a0 12 2 (.int v13) → fld w132 a0 12 20 (.ref f0) → fld w132 a0 12 21 (.int v22) → elt w132 f0 (10 : Int32).toInt.toNat p32_m_f0_M_said_10 → elt w132 f0 (305 : Int32).toInt.toNat v79 → lv_has ls 5 [(0, .ref a0), (1, .int v1), (2, .int p11_l2), (3, .int p70_l3), (4, .int p70_l4)] → W p l e (headSpec (ws_u yX12_fillsFits cX12_fillsFits 5 none) ({ frames := 20, cells := 0, slots := 0, locals := 586 })).room s m ([.ref a0] : List Value).toArray below meth c H locs 0 0 QQ (F0 m 132 ls [.int p132_s0]) := by
                intro H locs ls w132 p132_s0 hw hM l_p132_s0 h_p132_s0 f_a0_X12_2 f_a0_X12_20 f_a0_X12_21 f_f0_M_said_10 f_f0_M_said_305 hl
                refine lv_istore_n (lv' := [(3, .int p132_s0), (0, .ref a0), (1, .int v1), (2, .int p11_l2), (4, .int p70_l4)]) hx hb dX12_fillsFits_132 rfl hl (by decide) rfl (fun ls hl => ?_)
                obtain ⟨v133, e_v133⟩ : ∃ y : Int32, y = p70_l4 + 1 := ⟨_, rfl⟩
                refine lv_iinc (v := v133) (lv' := [(4, .int v133), (3, .int p132_s0), (0, .ref a0), (1, .int v1), (2, .int p11_l2)]) hx hb dX12_fillsFits_133 hl (k := 4) rfl e_v133.symm (by decide) rfl (fun ls hl => ?_)
                have e_v133 : v133.toInt = p70_l4.toInt + 1 := ad_i e_v133 rfl li_1 (by omega) (by omega)
                refine lv_goto (tgt := 70) hx hb dX12_fillsFits_136 (by decide) ?_
                exact ih_70 _ _ _ _ (by omega) ⟨w132, p132_s0, v133, hw, hM, (by omega), (by omega), (by omega), (by omega), f_a0_X12_2, f_a0_X12_20, f_a0_X12_21, f_f0_M_said_10, (lv_sub hl [2, 3, 4, 1, 0] rfl), rfl⟩
              have J131 : ∀ (H : Heap) (locs : List Loc) (ls : Array Slot) (w131 : va_W), tW (dC, dI) tys κ B A s w131 H locs → Sm [(12, 18), (12, 21), (12, 24)] [61, 62, 63, 64, 66, 70, 71] κ ws w131 → fld w131 a0 12 2 (.int v13) → fld w131 a0 12 20 (.ref f0) → fld w131 a0 12 21 (.int v22) → elt w131 f0 (10 : Int32).toInt.toNat p32_m_f0_M_said_10 → elt w131 f0 (305 : Int32).toInt.toNat v79 → lv_has ls 5 [(0, .ref a0), (1, .int v1), (2, .int p11_l2), (3, .int p70_l3), (4, .int p70_l4)] → W p l e (headSpec (ws_u yX12_fillsFits cX12_fillsFits 5 none) ({ frames := 20, cells := 0, slots := 0, locals := 586 })).room s m ([.ref a0] : List Value).toArray below meth c H locs 0 0 QQ (F0 m 131 ls []) := by
                intro H locs ls w131 hw hM f_a0_X12_2 f_a0_X12_20 f_a0_X12_21 f_f0_M_said_10 f_f0_M_said_305 hl
                refine lv_iconst (v := 0) hx hb dX12_fillsFits_131 (by decide) ?_
                exact J132 _ _ _ w131 0 hw hM (by decide) (by decide) f_a0_X12_2 f_a0_X12_20 f_a0_X12_21 f_f0_M_said_10 f_f0_M_said_305 (lv_sub hl [0, 1, 2, 3, 4] rfl)
              refine lv_if_eq (tgt := 131) hx hb dX12_fillsFits_84 (by decide) (fun c_84 => ?_) (fun c_84 => ?_)
              · simp only [fa_lt, fa_le, fa_eq, li_0] at c_84
                exact J131 _ _ _ w70 hw hM f_a0_X12_2 f_a0_X12_20 f_a0_X12_21 f_f0_M_said_10 f_f0_M_said_305 (lv_sub hl [0, 1, 2, 3, 4] rfl)
              · simp only [fa_lt, fa_le, fa_eq, li_0] at c_84
                refine lv_aload_n hx hb dX12_fillsFits_87 rfl (lv_at hl 0 rfl) ?_
                refine t_getr (k1 := 71) (ci := 12) (C := RX12) (T := TX12) (N := 38) hx hb hts iX12 hown hw k_a0 rfl rfl rfl 32 (by decide) (hts _ tw_1157) (fun _ h9 => h9) dX12_fillsFits_88 rfl (fun v88 k_v88 f_a0_X12_32 => ?_)
                refine lv_iload_n hx hb dX12_fillsFits_91 rfl (lv_at hl 2 rfl) ?_
                refine lv_aload_n hx hb dX12_fillsFits_92 rfl (lv_at hl 0 rfl) ?_
                refine t_getk (ci := 12) (C := RX12) (T := TX12) (N := 38) hx hb hts iX12 hown hw rfl 20 (by decide) (hts _ tw_1145) (fun _ h9 => h9) dX12_fillsFits_93 f_a0_X12_20 ?_
                refine lv_sipush (v := 285) hx hb dX12_fillsFits_96 (by decide) ?_
                refine lv_iconst (v := 2) hx hb dX12_fillsFits_99 (by decide) ?_
                refine lv_iload hx hb dX12_fillsFits_100 (lv_at hl 4 rfl) ?_
                refine lv_imul hx hb dX12_fillsFits_102 ?_
                refine lv_topi (fun v102 e_v102 => ?_)
                have e_v102 : v102.toInt = 2 * p70_l4.toInt := ml_i e_v102 li_2 rfl (by omega) (by omega)
                refine lv_iadd hx hb dX12_fillsFits_103 ?_
                refine lv_topi (fun v103 e_v103 => ?_)
                have e_v103 : v103.toInt = 285 + v102.toInt := ad_i e_v103 li_285 rfl (by omega) (by omega)
                refine t_iald hx hb hw k_f0 rfl rfl (by omega) (show v103.toInt < 306 by omega) dX12_fillsFits_104 (fun v104 r_v104 s_v104 q_v104 => ?_)
                have hj_v104 : v103.toInt.toNat = 285 + 2 * p70_l4.toInt.toNat := by omega
                have l_v104 : 0 ≤ v104.toInt := by rw [aiv_said, hj_v104, ivS_note (by omega)] at r_v104; exact r_v104
                have h_v104 : v104.toInt ≤ 60 := by rw [aiv_said, hj_v104, ivS_note (by omega)] at s_v104; exact s_v104
                refine t_calli (va_runS (As := [.int p11_l2, .int v104]) (rest := [.ref v88]) ⟨hx, hb, hml, hown, hts⟩ (t_X12_spot l dC dI tys κ B w70 hw.2.2.2.2 p11_l2 (by omega) (by omega) v104 (by omega) (by omega) H.size) (va_cwS 2 hts (gUS tw_1712 tw_1713 tw_13 tw_1714) rfl rfl rfl (by decide +kernel) ⟨(Nat.le_of_ble_eq_true rfl), (Nat.le_of_ble_eq_true rfl)⟩) ⟨cPre.blind, cPre.use hw.2.1 hw.1 hw.2.2.1 hE⟩ rfl rfl hl.1 rfl (lv_room (Nat.le_of_ble_eq_true rfl)) dX12_fillsFits_105 ⟨(Nat.le_of_ble_eq_true rfl), (Nat.le_of_ble_eq_true rfl)⟩) hw hA (fun _ _ h => h.2.2.1) (fun v105 w_7 H locs hp hw => ?_)
                obtain ⟨l_v105, h_v105, _, hm⟩ := hp
                have hM := hM.trans hm (by decide) (by decide)
                have f_a0_X12_2 := hm.1 _ _ _ _ f_a0_X12_2 (by decide)
                have f_a0_X12_20 := hm.1 _ _ _ _ f_a0_X12_20 (by decide)
                have f_a0_X12_21 := hm.1 _ _ _ _ f_a0_X12_21 (by decide)
                have f_f0_M_said_10 := hm.elt k_f0 (by decide) f_f0_M_said_10
                have f_f0_M_said_305 := hm.elt k_f0 (by decide) f_f0_M_said_305
                have f_a0_X12_32 := hm.1 _ _ _ _ f_a0_X12_32 (by decide)
                refine t_iald hx hb hw k_v88 rfl rfl (by omega) (show v105.toInt < 427 by omega) dX12_fillsFits_108 (fun v108 r_v108 s_v108 q_v108 => ?_)
                have l_v108 := i32_lo v108
                have h_v108 := i32_hi v108
                refine lv_aload_n hx hb dX12_fillsFits_109 rfl (lv_at hl 0 rfl) ?_
                refine t_getk (ci := 12) (C := RX12) (T := TX12) (N := 38) hx hb hts iX12 hown hw rfl 20 (by decide) (hts _ tw_1145) (fun _ h9 => h9) dX12_fillsFits_110 f_a0_X12_20 ?_
                refine lv_sipush (v := 285) hx hb dX12_fillsFits_113 (by decide) ?_
                refine lv_iconst (v := 2) hx hb dX12_fillsFits_116 (by decide) ?_
                refine lv_iload hx hb dX12_fillsFits_117 (lv_at hl 4 rfl) ?_
                refine lv_imul hx hb dX12_fillsFits_119 ?_
                refine lv_topi (fun v119 e_v119 => ?_)
                have e_v119 : v119.toInt = 2 * p70_l4.toInt := ml_i e_v119 li_2 rfl (by omega) (by omega)
                refine lv_iadd hx hb dX12_fillsFits_120 ?_
                refine lv_topi (fun v120 e_v120 => ?_)
                have e_v120 : v120.toInt = 285 + v119.toInt := ad_i e_v120 li_285 rfl (by omega) (by omega)
                refine lv_iconst (v := 1) hx hb dX12_fillsFits_121 (by decide) ?_
                refine lv_iadd hx hb dX12_fillsFits_122 ?_
                refine lv_topi (fun v122 e_v122 => ?_)
                have e_v122 : v122.toInt = v120.toInt + 1 := ad_i e_v122 rfl li_1 (by omega) (by omega)
                refine t_iald hx hb hw k_f0 rfl rfl (by omega) (show v122.toInt < 306 by omega) dX12_fillsFits_123 (fun v123 r_v123 s_v123 q_v123 => ?_)
                have l_v123 := i32_lo v123
                have h_v123 := i32_hi v123
                refine lv_icmp_ne (tgt := 131) hx hb dX12_fillsFits_124 (by decide) (fun c_124 => ?_) (fun c_124 => ?_)
                · simp only [fa_lt, fa_le, fa_eq] at c_124
                  exact J131 _ _ _ w_7 hw hM f_a0_X12_2 f_a0_X12_20 f_a0_X12_21 f_f0_M_said_10 f_f0_M_said_305 (lv_sub hl [0, 1, 2, 3, 4] rfl)
                · simp only [fa_lt, fa_le, fa_eq] at c_124
                  refine lv_iconst (v := 1) hx hb dX12_fillsFits_127 (by decide) ?_
                  refine lv_goto (tgt := 132) hx hb dX12_fillsFits_128 (by decide) ?_
                  exact J132 _ _ _ w_7 1 hw hM (by decide) (by decide) f_a0_X12_2 f_a0_X12_20 f_a0_X12_21 f_f0_M_said_10 f_f0_M_said_305 (lv_sub hl [0, 1, 2, 3, 4] rfl)
          exact J70 _ _ _ _ ⟨w32, 1, 0, hw, hM, (by decide), (by decide), (by decide), (by decide), f_a0_X12_2, f_a0_X12_20, f_a0_X12_21, f_f0_M_said_10, (lv_sub hl [2, 3, 4, 1, 0] rfl), rfl⟩
        · simp only [fa_lt, fa_le, fa_eq, li_60] at c_35
          refine lv_aload_n hx hb dX12_fillsFits_38 rfl (lv_at hl 0 rfl) ?_
          refine t_callv (va_runV (As := []) (rest := []) ⟨hx, hb, hml, hown, hts⟩ (t_X12_passes l dC dI tys κ B w32 hw.2.2.2.2 a0 k_a0 f0 k_f0 f_a0_X12_20 p32_m_f0_M_said_10 (by omega) (by omega) f_f0_M_said_10 H.size) (cwV 0 hts (gUV tw_1497 tw_1499 ts_5_14 tw_13 tw_1500) rfl rfl rfl (by decide +kernel) ⟨(Nat.le_of_ble_eq_true rfl), (Nat.le_of_ble_eq_true rfl)⟩) ⟨cPre.blind, t_recv hw (ci := 12) k_a0 rfl rfl, cPre.use hw.2.1 hw.1 hw.2.2.1 hE⟩ rfl rfl hl.1 rfl (lv_room (Nat.le_of_ble_eq_true rfl)) dX12_fillsFits_39 ⟨(Nat.le_of_ble_eq_true rfl), (Nat.le_of_ble_eq_true rfl)⟩) hw hA (fun _ h => h.1) (fun w_8 H locs hp hw => ?_)
          obtain ⟨_, hm, ⟨v39d, l_v39d, h_v39d, f_f0_M_said_10, y_v39⟩⟩ := hp
          have hM := hM.trans hm (by decide) (by decide)
          have f_a0_X12_2 := hm.1 _ _ _ _ f_a0_X12_2 (by decide)
          have f_a0_X12_20 := hm.1 _ _ _ _ f_a0_X12_20 (by decide)
          have f_a0_X12_21 := hm.1 _ _ _ _ f_a0_X12_21 (by decide)
          refine lv_aload_n hx hb dX12_fillsFits_42 rfl (lv_at hl 0 rfl) ?_
          refine t_getr (k1 := 71) (ci := 12) (C := RX12) (T := TX12) (N := 38) hx hb hts iX12 hown hw k_a0 rfl rfl rfl 32 (by decide) (hts _ tw_1157) (fun _ h9 => h9) dX12_fillsFits_43 rfl (fun v43 k_v43 f_a0_X12_32 => ?_)
          refine lv_iload_n hx hb dX12_fillsFits_46 rfl (lv_at hl 2 rfl) ?_
          refine lv_iload_n hx hb dX12_fillsFits_47 rfl (lv_at hl 3 rfl) ?_
          refine t_calli (va_runS (As := [.int p11_l2, .int p32_l3]) (rest := [.ref v43]) ⟨hx, hb, hml, hown, hts⟩ (t_X12_spot l dC dI tys κ B w_8 hw.2.2.2.2 p11_l2 (by omega) (by omega) p32_l3 (by omega) (by omega) H.size) (va_cwS 2 hts (gUS tw_1712 tw_1713 tw_13 tw_1714) rfl rfl rfl (by decide +kernel) ⟨(Nat.le_of_ble_eq_true rfl), (Nat.le_of_ble_eq_true rfl)⟩) ⟨cPre.blind, cPre.use hw.2.1 hw.1 hw.2.2.1 hE⟩ rfl rfl hl.1 rfl (lv_room (Nat.le_of_ble_eq_true rfl)) dX12_fillsFits_48 ⟨(Nat.le_of_ble_eq_true rfl), (Nat.le_of_ble_eq_true rfl)⟩) hw hA (fun _ _ h => h.2.2.1) (fun v48 w_9 H locs hp hw => ?_)
          obtain ⟨l_v48, h_v48, _, hm⟩ := hp
          have hM := hM.trans hm (by decide) (by decide)
          have f_a0_X12_2 := hm.1 _ _ _ _ f_a0_X12_2 (by decide)
          have f_a0_X12_20 := hm.1 _ _ _ _ f_a0_X12_20 (by decide)
          have f_a0_X12_21 := hm.1 _ _ _ _ f_a0_X12_21 (by decide)
          have f_f0_M_said_10 := hm.elt k_f0 (by decide) f_f0_M_said_10
          have f_a0_X12_32 := hm.1 _ _ _ _ f_a0_X12_32 (by decide)
          refine lv_aload_n hx hb dX12_fillsFits_51 rfl (lv_at hl 0 rfl) ?_
          refine t_getk (ci := 12) (C := RX12) (T := TX12) (N := 38) hx hb hts iX12 hown hw rfl 20 (by decide) (hts _ tw_1145) (fun _ h9 => h9) dX12_fillsFits_52 f_a0_X12_20 ?_
          refine lv_bipush (v := 11) hx hb dX12_fillsFits_55 (by decide) ?_
          refine t_iald hx hb hw k_f0 rfl rfl (by decide) (by decide) dX12_fillsFits_57 (fun v57 r_v57 s_v57 f_f0_M_said_11 => ?_)
          have l_v57 : (-1) ≤ v57.toInt := by rw [iv_63_11] at r_v57; exact r_v57
          have h_v57 : v57.toInt ≤ 5 := by rw [iv_63_11] at s_v57; exact s_v57
          refine t_iast hx hb hw k_v43 rfl rfl (by omega) (show v48.toInt < 427 by omega) (i32_lo _) (i32_hi _) dX12_fillsFits_58 (fun w_10 H locs hw u => ?_)
          have hM := hM.up3 u k_v43 (by decide)
          have f_a0_X12_2 := u.1 _ _ _ _ f_a0_X12_2
          have f_a0_X12_20 := u.1 _ _ _ _ f_a0_X12_20
          have f_a0_X12_21 := u.1 _ _ _ _ f_a0_X12_21
          have f_f0_M_said_10 := u.2.2.1 _ _ _ f_f0_M_said_10 (Or.inl (ne_k k_f0 k_v43 (by decide)))
          have f_a0_X12_32 := u.1 _ _ _ _ f_a0_X12_32
          have f_f0_M_said_11 := u.2.2.1 _ _ _ f_f0_M_said_11 (Or.inl (ne_k k_f0 k_v43 (by decide)))
          obtain ⟨v59, e_v59⟩ : ∃ y : Int32, y = p32_l3 + 1 := ⟨_, rfl⟩
          refine lv_iinc (v := v59) (lv' := [(3, .int v59), (0, .ref a0), (1, .int v1), (2, .int p11_l2)]) hx hb dX12_fillsFits_59 hl (k := 3) rfl e_v59.symm (by decide) rfl (fun ls hl => ?_)
          have e_v59 : v59.toInt = p32_l3.toInt + 1 := ad_i e_v59 rfl li_1 (by omega) (by omega)
          refine lv_goto (tgt := 32) hx hb dX12_fillsFits_62 (by decide) ?_
          exact ih_32 _ _ _ _ (by omega) ⟨w_10, v59, v39d, hw, hM, (by omega), (by omega), (by omega), (by omega), f_a0_X12_2, f_a0_X12_20, f_a0_X12_21, f_f0_M_said_10, (by omega), (lv_sub hl [1, 2, 3, 0] rfl), rfl⟩
      exact J32 _ _ _ _ ⟨w_5, 0, v27d, hw, hM, (by decide), (by decide), (by omega), (by omega), f_a0_X12_2, f_a0_X12_20, f_a0_X12_21, f_f0_M_said_10, (by have := li_0; omega), (lv_sub hl [1, 2, 3, 0] rfl), rfl⟩
  exact J11 _ _ _ _ ⟨w_1, 0, v1, f1, hw, hM, (by decide), (by decide), (by omega), (by omega), (by omega), (by omega), f_a0_X12_20, f_a0_X12_21, f_f0_M_said_10, (lv_sub hl [2, 1, 0] rfl), rfl⟩
set_option maxHeartbeats 4000000 in
set_option maxRecDepth 100000 in
theorem t_X12_fillsWanted (l : Launch) (dC : Nat → ClassId) (dI : Nat → Nat → Nat) (tys : List (ClassId × FieldType)) (κ : tK) (B : Nat) (ws : va_W) (hT : Ty κ tys B ws) (a0 : Nat) (k_a0 : κ a0 = some 12) (sz : Nat) : Met l yX12_fillsWanted (ws_u yX12_fillsWanted cX12_fillsWanted 3 none) ({ frames := 15, cells := 0, slots := 0, locals := 476 }) (va_Pc [.ref a0] (cPre (dC, dI) tys ws sz)) (va_Qv (fun (w : va_W) => Ty κ tys B w ∧ Sm [(12, 18)] [61, 62, 67] κ ws w) (fun w t => cPost (dC, dI) tys w (va_A ws sz) t) (va_A ws sz)) 0 0 (va_A ws sz) := by
  refine Met.ofW (cc := cX12_fillsWanted) (maxL := 3) (ret := none) (by decide) rfl ?_
  intro p e s m args below meth c s₁ B0 hml hv
  obtain ⟨rfl, hsz, hP, hK, hD0, hE⟩ := hv
  have hx := B0.exec
  have hb := B0.bytes
  have hr := B0.returns
  have hts0 := atoms_spec (ws := ws_u yX12_fillsWanted cX12_fillsWanted 3 none) B0.pre
  have hts : ∀ w ∈ gT, w.before _ s = true := fun w h => hts0 w (List.mem_cons_of_mem _ h)
  have hown : s.vm.findClass RX12 = some m.cls := findClass_of_methodNamed B0.named
  have hlocks := B0.notSynchronized
  subst hsz
  have hD := hD0.self (sz := s.heap.size)
  generalize hAe : va_A ws s.heap.size = A at hD ⊢
  have hA : ∀ q : Nat, s.heap.size ≤ q → A q := fun q h => by rw [← hAe]; exact Or.inr h
  have hw : tW (dC, dI) tys κ B A s ws s.heap [] := ⟨hK, hP, hD, va_S.rf, hT⟩
  have hM : Sm [(12, 18)] [61, 62, 67] κ ws ws := Sm.rf
  clear hP hK hD hD0 hts0
  have hl := lv_entry ([.ref a0]) (n := 3) (Nat.le_of_ble_eq_true rfl)
  rw [lg_entry_eq]
  generalize (lg_sl ([.ref a0]) ++ List.replicate (3 - (lg_sl ([.ref a0])).length) Slot.unset).toArray = ls at hl ⊢
  have hl : lv_has ls 3 [(0, .ref a0)] := hl
  refine t_start (fun QQ hQ => ?_)
  refine lv_iconst (v := 0) hx hb dX12_fillsWanted_0 (by decide) ?_
  refine lv_istore_n (lv' := [(1, .int 0), (0, .ref a0)]) hx hb dX12_fillsWanted_1 rfl hl (by decide) rfl (fun ls hl => ?_)
  have J2 : ∀ (n : Nat) (H : Heap) (locs : List Loc) (ls : Array Slot), (∃ (w2 : va_W) (p2_l1 : Int32), tW (dC, dI) tys κ B A s w2 H locs ∧ Sm [(12, 18)] [61, 62, 67] κ ws w2 ∧ 0 ≤ p2_l1.toInt ∧ p2_l1.toInt ≤ 6 ∧ lv_has ls 3 [(0, .ref a0), (1, .int p2_l1)] ∧ (6 - p2_l1.toInt).toNat = n) → W p l e (headSpec (ws_u yX12_fillsWanted cX12_fillsWanted 3 none) ({ frames := 15, cells := 0, slots := 0, locals := 476 })).room s m ([.ref a0] : List Value).toArray below meth c H locs 0 0 QQ (F0 m 2 ls []) := by
    refine loopT _ ?_
    intro n_2 H locs ls hI ih_2
    obtain ⟨w2, p2_l1, hw, hM, l_p2_l1, h_p2_l1, hl, hn_2⟩ := hI
    refine lv_iload_n hx hb dX12_fillsWanted_2 rfl (lv_at hl 1 rfl) ?_
    refine lv_aload_n hx hb dX12_fillsWanted_3 rfl (lv_at hl 0 rfl) ?_
    refine t_getr (k1 := 63) (ci := 12) (C := RX12) (T := TX12) (N := 38) hx hb hts iX12 hown hw k_a0 rfl rfl rfl 20 (by decide) (hts _ tw_1145) (fun _ h9 => h9) dX12_fillsWanted_4 rfl (fun v4 k_v4 f_a0_X12_20 => ?_)
    refine lv_iconst (v := 3) hx hb dX12_fillsWanted_7 (by decide) ?_
    refine t_iald hx hb hw k_v4 rfl rfl (by decide) (by decide) dX12_fillsWanted_8 (fun v8 r_v8 s_v8 f_v4_M_said_3 => ?_)
    have l_v8 : 0 ≤ v8.toInt := by rw [iv_63_3] at r_v8; exact r_v8
    have h_v8 : v8.toInt ≤ 6 := by rw [iv_63_3] at s_v8; exact s_v8
    refine lv_icmp_ge (tgt := 65) hx hb dX12_fillsWanted_9 (by decide) (fun c_9 => ?_) (fun c_9 => ?_)
    · simp only [fa_lt, fa_le, fa_eq] at c_9
      rw [hQ]
      refine W.widen (k := 0) (n := 0) (Nat.le_refl _) (Nat.le_refl _) ?_
      exact W.vret hx hb hr (fun t ht hW => ⟨⟨w2, rfl, ⟨hw.2.2.2.2, hM⟩, by rw [ht]; exact hw.2.1, va_K.moved hW.alike hw.1, hw.2.2.1⟩, hw.2.2.2.1.F ht⟩) hw.2.2.2.1.2.2 dX12_fillsWanted_65
    · simp only [fa_lt, fa_le, fa_eq] at c_9
      refine lv_iconst (v := 0) hx hb dX12_fillsWanted_12 (by decide) ?_
      refine lv_istore_n (lv' := [(2, .int 0), (0, .ref a0), (1, .int p2_l1)]) hx hb dX12_fillsWanted_13 rfl hl (by decide) rfl (fun ls hl => ?_)
      have J14 : ∀ (n : Nat) (H : Heap) (locs : List Loc) (ls : Array Slot), (∃ (w14 : va_W) (p14_l2 : Int32), tW (dC, dI) tys κ B A s w14 H locs ∧ Sm [(12, 18)] [61, 62, 67] κ ws w14 ∧ 0 ≤ p14_l2.toInt ∧ p14_l2.toInt ≤ 6 ∧ fld w14 a0 12 20 (.ref v4) ∧ elt w14 v4 (3 : Int32).toInt.toNat v8 ∧ lv_has ls 3 [(0, .ref a0), (1, .int p2_l1), (2, .int p14_l2)] ∧ (6 - p14_l2.toInt).toNat = n) → W p l e (headSpec (ws_u yX12_fillsWanted cX12_fillsWanted 3 none) ({ frames := 15, cells := 0, slots := 0, locals := 476 })).room s m ([.ref a0] : List Value).toArray below meth c H locs 0 0 QQ (F0 m 14 ls []) := by
        refine loopT _ ?_
        intro n_14 H locs ls hI ih_14
        obtain ⟨w14, p14_l2, hw, hM, l_p14_l2, h_p14_l2, f_a0_X12_20, f_v4_M_said_3, hl, hn_14⟩ := hI
        refine lv_iload_n hx hb dX12_fillsWanted_14 rfl (lv_at hl 2 rfl) ?_
        refine lv_aload_n hx hb dX12_fillsWanted_15 rfl (lv_at hl 0 rfl) ?_
        refine t_getk (ci := 12) (C := RX12) (T := TX12) (N := 38) hx hb hts iX12 hown hw rfl 20 (by decide) (hts _ tw_1145) (fun _ h9 => h9) dX12_fillsWanted_16 f_a0_X12_20 ?_
        refine lv_iconst (v := 3) hx hb dX12_fillsWanted_19 (by decide) ?_
        refine t_ialdk hx hb hw k_v4 rfl rfl (by decide) (by decide) f_v4_M_said_3 dX12_fillsWanted_20 ?_
        refine lv_icmp_ge (tgt := 59) hx hb dX12_fillsWanted_21 (by decide) (fun c_21 => ?_) (fun c_21 => ?_)
        · simp only [fa_lt, fa_le, fa_eq] at c_21
          obtain ⟨v59, e_v59⟩ : ∃ y : Int32, y = p2_l1 + 1 := ⟨_, rfl⟩
          refine lv_iinc (v := v59) (lv' := [(1, .int v59), (0, .ref a0), (2, .int p14_l2)]) hx hb dX12_fillsWanted_59 hl (k := 1) rfl e_v59.symm (by decide) rfl (fun ls hl => ?_)
          have e_v59 : v59.toInt = p2_l1.toInt + 1 := ad_i e_v59 rfl li_1 (by omega) (by omega)
          refine lv_goto (tgt := 2) hx hb dX12_fillsWanted_62 (by decide) ?_
          exact ih_2 _ _ _ _ (by omega) ⟨w14, v59, hw, hM, (by omega), (by omega), (lv_sub hl [1, 0] rfl), rfl⟩
        · simp only [fa_lt, fa_le, fa_eq] at c_21
          refine lv_aload_n hx hb dX12_fillsWanted_24 rfl (lv_at hl 0 rfl) ?_
          refine t_getr (k1 := 67) (ci := 12) (C := RX12) (T := TX12) (N := 38) hx hb hts iX12 hown hw k_a0 rfl rfl rfl 28 (by decide) (hts _ tw_1153) (fun _ h9 => h9) dX12_fillsWanted_25 rfl (fun v25 k_v25 f_a0_X12_28 => ?_)
          refine lv_bipush (v := 6) hx hb dX12_fillsWanted_28 (by decide) ?_
          refine lv_iload_n hx hb dX12_fillsWanted_30 rfl (lv_at hl 1 rfl) ?_
          refine lv_imul hx hb dX12_fillsWanted_31 ?_
          refine lv_topi (fun v31 e_v31 => ?_)
          have e_v31 : v31.toInt = 6 * p2_l1.toInt := ml_i e_v31 li_6 rfl (by omega) (by omega)
          refine lv_iload_n hx hb dX12_fillsWanted_32 rfl (lv_at hl 2 rfl) ?_
          refine lv_iadd hx hb dX12_fillsWanted_33 ?_
          refine lv_topi (fun v33 e_v33 => ?_)
          have e_v33 : v33.toInt = v31.toInt + p14_l2.toInt := ad_i e_v33 rfl rfl (by omega) (by omega)
          refine lv_aload_n hx hb dX12_fillsWanted_34 rfl (lv_at hl 0 rfl) ?_
          refine lv_iload_n hx hb dX12_fillsWanted_35 rfl (lv_at hl 2 rfl) ?_
          refine t_calli (va_runV (As := [.int p14_l2]) (rest := [.int v33, .ref v25]) ⟨hx, hb, hml, hown, hts⟩ (t_X12_isSound l dC dI tys κ B w14 hw.2.2.2.2 a0 k_a0 p14_l2 H.size) (cwV 1 hts (gUV tw_1517 tw_1519 ts_6_3 tw_13 tw_1520) rfl rfl rfl (by decide +kernel) ⟨(Nat.le_of_ble_eq_true rfl), (Nat.le_of_ble_eq_true rfl)⟩) ⟨cPre.blind, t_recv hw (ci := 12) k_a0 rfl rfl, cPre.use hw.2.1 hw.1 hw.2.2.1 hE⟩ rfl rfl hl.1 rfl (lv_room (Nat.le_of_ble_eq_true rfl)) dX12_fillsWanted_36 ⟨(Nat.le_of_ble_eq_true rfl), (Nat.le_of_ble_eq_true rfl)⟩) hw hA (fun _ _ h => h.2.2.1) (fun v36 w_1 H locs hp hw => ?_)
          obtain ⟨l_v36, h_v36, _, hm, x_v36_0⟩ := hp
          have hM := hM.trans hm (by decide) (by decide)
          have f_a0_X12_20 := hm.1 _ _ _ _ f_a0_X12_20 (by decide)
          have f_v4_M_said_3 := hm.elt k_v4 (by decide) f_v4_M_said_3
          have f_a0_X12_28 := hm.1 _ _ _ _ f_a0_X12_28 (by decide)
          have J52 : ∀ (H : Heap) (locs : List Loc) (ls : Array Slot) (w52 : va_W) (p52_s0 : Int64), tW (dC, dI) tys κ B A s w52 H locs → Sm [(12, 18)] [61, 62, 67] κ ws w52 → fld w52 a0 12 20 (.ref v4) → fld w52 a0 12 28 (.ref v25) → elt w52 v4 (3 : Int32).toInt.toNat v8 → lv_has ls 3 [(0, .ref a0), (1, .int p2_l1), (2, .int p14_l2)] → W p l e (headSpec (ws_u yX12_fillsWanted cX12_fillsWanted 3 none) ({ frames := 15, cells := 0, slots := 0, locals := 476 })).room s m ([.ref a0] : List Value).toArray below meth c H locs 0 0 QQ (F0 m 52 ls [.long p52_s0, .int v33, .ref v25]) := by
            intro H locs ls w52 p52_s0 hw hM f_a0_X12_20 f_a0_X12_28 f_v4_M_said_3 hl
            refine t_last hx hb hw k_v25 rfl rfl (by omega) (show v33.toInt < 36 by omega) dX12_fillsWanted_52 (fun w_2 H locs y hw u => ?_)
            have hM := hM.up2 u k_v25 (by decide)
            have f_a0_X12_20 := u.1 _ _ _ _ f_a0_X12_20
            have f_a0_X12_28 := u.1 _ _ _ _ f_a0_X12_28
            have f_v4_M_said_3 := u.elt f_v4_M_said_3 (ne_k k_v4 k_v25 (by decide))
            obtain ⟨v53, e_v53⟩ : ∃ y : Int32, y = p14_l2 + 1 := ⟨_, rfl⟩
            refine lv_iinc (v := v53) (lv' := [(2, .int v53), (0, .ref a0), (1, .int p2_l1)]) hx hb dX12_fillsWanted_53 hl (k := 2) rfl e_v53.symm (by decide) rfl (fun ls hl => ?_)
            have e_v53 : v53.toInt = p14_l2.toInt + 1 := ad_i e_v53 rfl li_1 (by omega) (by omega)
            refine lv_goto (tgt := 14) hx hb dX12_fillsWanted_56 (by decide) ?_
            exact ih_14 _ _ _ _ (by omega) ⟨w_2, v53, hw, hM, (by omega), (by omega), f_a0_X12_20, f_v4_M_said_3, (lv_sub hl [1, 2, 0] rfl), rfl⟩
          refine lv_if_eq (tgt := 51) hx hb dX12_fillsWanted_39 (by decide) (fun c_39 => ?_) (fun c_39 => ?_)
          · simp only [fa_lt, fa_le, fa_eq, li_0] at c_39
            refine lv_lconst (v := 0) hx hb dX12_fillsWanted_51 (by decide) ?_
            obtain ⟨v51, e_v51⟩ : ∃ y : Int64, y = 0 := ⟨_, rfl⟩
            refine W.eq (g2 := F0 m 52 ls [.long v51, .int v33, .ref v25]) (by rw [e_v51]) ?_
            have t_v51 : v51.toInt = 0 := by rw [e_v51]; decide
            exact J52 _ _ _ w_1 v51 hw hM f_a0_X12_20 f_a0_X12_28 f_v4_M_said_3 (lv_sub hl [0, 1, 2] rfl)
          · simp only [fa_lt, fa_le, fa_eq, li_0] at c_39
            refine lv_aload_n hx hb dX12_fillsWanted_42 rfl (lv_at hl 0 rfl) ?_
            refine lv_iload_n hx hb dX12_fillsWanted_43 rfl (lv_at hl 1 rfl) ?_
            refine lv_iload_n hx hb dX12_fillsWanted_44 rfl (lv_at hl 2 rfl) ?_
            refine t_calll (va_runV (As := [.int p2_l1, .int p14_l2]) (rest := [.int v33, .ref v25]) ⟨hx, hb, hml, hown, hts⟩ (t_X12_wants l dC dI tys κ B w_1 hw.2.2.2.2 a0 k_a0 p2_l1 (by omega) (by omega) p14_l2 (by omega) (by omega) H.size) (cwV 2 hts (gUV tw_1521 tw_1523 ts_6_4 tw_13 tw_1524) rfl rfl rfl (by decide +kernel) ⟨(Nat.le_of_ble_eq_true rfl), (Nat.le_of_ble_eq_true rfl)⟩) ⟨cPre.blind, t_recv hw (ci := 12) k_a0 rfl rfl, cPre.use hw.2.1 hw.1 hw.2.2.1 hE⟩ rfl rfl hl.1 rfl (lv_room (Nat.le_of_ble_eq_true rfl)) dX12_fillsWanted_45 ⟨(Nat.le_of_ble_eq_true rfl), (Nat.le_of_ble_eq_true rfl)⟩) hw hA (fun _ _ h => h.1) (fun v45 w_3 H locs hp hw => ?_)
            obtain ⟨_, hm⟩ := hp
            have hM := hM.trans hm (by decide) (by decide)
            have f_a0_X12_20 := hm.1 _ _ _ _ f_a0_X12_20 (by decide)
            have f_v4_M_said_3 := hm.elt k_v4 (by decide) f_v4_M_said_3
            have f_a0_X12_28 := hm.1 _ _ _ _ f_a0_X12_28 (by decide)
            refine lv_goto (tgt := 52) hx hb dX12_fillsWanted_48 (by decide) ?_
            exact J52 _ _ _ w_3 v45 hw hM f_a0_X12_20 f_a0_X12_28 f_v4_M_said_3 (lv_sub hl [0, 1, 2] rfl)
      exact J14 _ _ _ _ ⟨w2, 0, hw, hM, (by decide), (by decide), f_a0_X12_20, f_v4_M_said_3, (lv_sub hl [1, 2, 0] rfl), rfl⟩
  exact J2 _ _ _ _ ⟨ws, 0, hw, hM, (by decide), (by decide), (lv_sub hl [1, 0] rfl), rfl⟩
set_option maxHeartbeats 4000000 in
set_option maxRecDepth 100000 in
theorem t_X12_isRule (l : Launch) (dC : Nat → ClassId) (dI : Nat → Nat → Nat) (tys : List (ClassId × FieldType)) (κ : tK) (B : Nat) (ws : va_W) (hT : Ty κ tys B ws) (a0 : Nat) (k_a0 : κ a0 = some 12) (a1 : Int32) (sz : Nat) : Met l yX12_isRule (ws_u yX12_isRule cX12_isRule 2 (some .boolean)) ({ frames := 0, cells := 0, slots := 0, locals := 0 }) (va_Pc [.ref a0, .int a1] (cPre (dC, dI) tys ws sz)) (va_Qi (fun (r : Int32) (w : va_W) => 0 ≤ r.toInt ∧ r.toInt ≤ 1 ∧ Ty κ tys B w ∧ Sm [] [] κ ws w ∧ (r.toInt = 0 ∨ 0 ≤ a1.toInt ∧ a1.toInt ≤ 5)) (fun w t => cPost (dC, dI) tys w (va_A ws sz) t) (va_A ws sz)) 0 0 (va_A ws sz) := by
  refine Met.ofW (cc := cX12_isRule) (maxL := 2) (ret := (some .boolean)) (by decide) rfl ?_
  intro p e s m args below meth c s₁ B0 hml hv
  obtain ⟨rfl, hsz, hP, hK, hD0, hE⟩ := hv
  have hx := B0.exec
  have hb := B0.bytes
  have hr := B0.returns
  have hts0 := atoms_spec (ws := ws_u yX12_isRule cX12_isRule 2 (some .boolean)) B0.pre
  have hts : ∀ w ∈ gT, w.before _ s = true := fun w h => hts0 w (List.mem_cons_of_mem _ h)
  have hown : s.vm.findClass RX12 = some m.cls := findClass_of_methodNamed B0.named
  have hlocks := B0.notSynchronized
  subst hsz
  have hD := hD0.self (sz := s.heap.size)
  generalize hAe : va_A ws s.heap.size = A at hD ⊢
  have hA : ∀ q : Nat, s.heap.size ≤ q → A q := fun q h => by rw [← hAe]; exact Or.inr h
  have hw : tW (dC, dI) tys κ B A s ws s.heap [] := ⟨hK, hP, hD, va_S.rf, hT⟩
  have hM : Sm [] [] κ ws ws := Sm.rf
  clear hP hK hD hD0 hts0
  have l_a1 := i32_lo a1
  have h_a1 := i32_hi a1
  have hl := lv_entry ([.ref a0, .int a1]) (n := 2) (Nat.le_of_ble_eq_true rfl)
  rw [lg_entry_eq]
  generalize (lg_sl ([.ref a0, .int a1]) ++ List.replicate (2 - (lg_sl ([.ref a0, .int a1])).length) Slot.unset).toArray = ls at hl ⊢
  have hl : lv_has ls 2 [(0, .ref a0), (1, .int a1)] := hl
  refine t_start (fun QQ hQ => ?_)
  refine lv_iload_n hx hb dX12_isRule_0 rfl (lv_at hl 1 rfl) ?_
  refine lv_if_lt (tgt := 16) hx hb dX12_isRule_1 (by decide) (fun c_1 => ?_) (fun c_1 => ?_)
  · simp only [fa_lt, fa_le, fa_eq, li_0] at c_1
    refine lv_iconst (v := 0) hx hb dX12_isRule_16 (by decide) ?_
    rw [hQ]
    refine W.widen (k := 0) (n := 0) (Nat.le_refl _) (Nat.le_refl _) ?_
    exact W.zret (v := 0) hx hb hr rfl (fun t ht hW => ⟨⟨0, ws, rfl, ⟨(by decide), (by decide), hw.2.2.2.2, hM, (by have := li_0; omega)⟩, by rw [ht]; exact hw.2.1, va_K.moved hW.alike hw.1, hw.2.2.1⟩, hw.2.2.2.1.F ht⟩) hw.2.2.2.1.2.2 dX12_isRule_17
  · simp only [fa_lt, fa_le, fa_eq, li_0] at c_1
    refine lv_iload_n hx hb dX12_isRule_4 rfl (lv_at hl 1 rfl) ?_
    refine lv_aload_n hx hb dX12_isRule_5 rfl (lv_at hl 0 rfl) ?_
    refine t_geti (ci := 12) (C := RX12) (T := TX12) (N := 38) hx hb hts iX12 hown hw k_a0 rfl rfl rfl 2 (by decide) (hts _ tw_1127) (fun _ h9 => h9) dX12_isRule_6 rfl (fun v6 l_v6 h_v6 f_a0_X12_2 => ?_)
    have l_v6 : 0 ≤ v6.toInt := l_v6
    have h_v6 : v6.toInt ≤ 6 := h_v6
    refine lv_icmp_ge (tgt := 16) hx hb dX12_isRule_9 (by decide) (fun c_9 => ?_) (fun c_9 => ?_)
    · simp only [fa_lt, fa_le, fa_eq] at c_9
      refine lv_iconst (v := 0) hx hb dX12_isRule_16 (by decide) ?_
      rw [hQ]
      refine W.widen (k := 0) (n := 0) (Nat.le_refl _) (Nat.le_refl _) ?_
      exact W.zret (v := 0) hx hb hr rfl (fun t ht hW => ⟨⟨0, ws, rfl, ⟨(by decide), (by decide), hw.2.2.2.2, hM, (by have := li_0; omega)⟩, by rw [ht]; exact hw.2.1, va_K.moved hW.alike hw.1, hw.2.2.1⟩, hw.2.2.2.1.F ht⟩) hw.2.2.2.1.2.2 dX12_isRule_17
    · simp only [fa_lt, fa_le, fa_eq] at c_9
      refine lv_iconst (v := 1) hx hb dX12_isRule_12 (by decide) ?_
      refine lv_goto (tgt := 17) hx hb dX12_isRule_13 (by decide) ?_
      rw [hQ]
      refine W.widen (k := 0) (n := 0) (Nat.le_refl _) (Nat.le_refl _) ?_
      exact W.zret (v := 1) hx hb hr rfl (fun t ht hW => ⟨⟨1, ws, rfl, ⟨(by decide), (by decide), hw.2.2.2.2, hM, (by have := li_1; omega)⟩, by rw [ht]; exact hw.2.1, va_K.moved hW.alike hw.1, hw.2.2.1⟩, hw.2.2.2.1.F ht⟩) hw.2.2.2.1.2.2 dX12_isRule_17
set_option maxHeartbeats 4000000 in
set_option maxRecDepth 100000 in
theorem t_X12_force (l : Launch) (dC : Nat → ClassId) (dI : Nat → Nat → Nat) (tys : List (ClassId × FieldType)) (κ : tK) (B : Nat) (ws : va_W) (hT : Ty κ tys B ws) (a0 : Nat) (k_a0 : κ a0 = some 12) (a1 : Int32) (sz : Nat) : Met l yX12_force (ws_u yX12_force cX12_force 3 (some .int)) ({ frames := 1, cells := 0, slots := 0, locals := 21 }) (va_Pc [.ref a0, .int a1] (cPre (dC, dI) tys ws sz)) (va_Qi (fun (r : Int32) (w : va_W) => (-2) ≤ r.toInt ∧ r.toInt ≤ 5 ∧ Ty κ tys B w ∧ Sm [(12, 21)] [] κ ws w) (fun w t => cPost (dC, dI) tys w (va_A ws sz) t) (va_A ws sz)) 0 0 (va_A ws sz) := by
  refine Met.ofW (cc := cX12_force) (maxL := 3) (ret := (some .int)) (by decide) rfl ?_
  intro p e s m args below meth c s₁ B0 hml hv
  obtain ⟨rfl, hsz, hP, hK, hD0, hE⟩ := hv
  have hx := B0.exec
  have hb := B0.bytes
  have hr := B0.returns
  have hts0 := atoms_spec (ws := ws_u yX12_force cX12_force 3 (some .int)) B0.pre
  have hts : ∀ w ∈ gT, w.before _ s = true := fun w h => hts0 w (List.mem_cons_of_mem _ h)
  have hown : s.vm.findClass RX12 = some m.cls := findClass_of_methodNamed B0.named
  have hlocks := B0.notSynchronized
  subst hsz
  have hD := hD0.self (sz := s.heap.size)
  generalize hAe : va_A ws s.heap.size = A at hD ⊢
  have hA : ∀ q : Nat, s.heap.size ≤ q → A q := fun q h => by rw [← hAe]; exact Or.inr h
  have hw : tW (dC, dI) tys κ B A s ws s.heap [] := ⟨hK, hP, hD, va_S.rf, hT⟩
  have hM : Sm [(12, 21)] [] κ ws ws := Sm.rf
  clear hP hK hD hD0 hts0
  have l_a1 := i32_lo a1
  have h_a1 := i32_hi a1
  have hl := lv_entry ([.ref a0, .int a1]) (n := 3) (Nat.le_of_ble_eq_true rfl)
  rw [lg_entry_eq]
  generalize (lg_sl ([.ref a0, .int a1]) ++ List.replicate (3 - (lg_sl ([.ref a0, .int a1])).length) Slot.unset).toArray = ls at hl ⊢
  have hl : lv_has ls 3 [(0, .ref a0), (1, .int a1)] := hl
  refine t_start (fun QQ hQ => ?_)
  refine lv_iload_n hx hb dX12_force_0 rfl (lv_at hl 1 rfl) ?_
  refine lv_iconst (v := (-1)) hx hb dX12_force_1 (by decide) ?_
  refine lv_icmp_eq (tgt := 16) hx hb dX12_force_2 (by decide) (fun c_2 => ?_) (fun c_2 => ?_)
  · simp only [fa_lt, fa_le, fa_eq, li_m1] at c_2
    refine lv_aload_n hx hb dX12_force_16 rfl (lv_at hl 0 rfl) ?_
    refine t_geti (ci := 12) (C := RX12) (T := TX12) (N := 38) hx hb hts iX12 hown hw k_a0 rfl rfl rfl 21 (by decide) (hts _ tw_1146) (fun _ h9 => h9) dX12_force_17 rfl (fun v17 l_v17 h_v17 f_a0_X12_21 => ?_)
    have l_v17 : (-1) ≤ v17.toInt := l_v17
    have h_v17 : v17.toInt ≤ 5 := h_v17
    refine lv_istore_n (lv' := [(2, .int v17), (0, .ref a0), (1, .int a1)]) hx hb dX12_force_20 rfl hl (by decide) rfl (fun ls hl => ?_)
    refine lv_aload_n hx hb dX12_force_21 rfl (lv_at hl 1 rfl) ?_
    refine lv_iload_n hx hb dX12_force_22 rfl (lv_at hl 2 rfl) ?_
    refine t_put (ci := 12) (C := RX12) (T := TX12) (N := 38) (v := .int a1) hx hb hts iX12 tyX12 tyX12_ok nmX12 hown hw k_a0 rfl rfl rfl 21 (by decide) (hts _ tw_1146) (fun _ h9 => h9) rfl (tyX12_ok 21 (by decide)) rfl rfl (okV.int rfl (by omega) (by omega)) dX12_force_23 (fun w_1 H locs hw u => ?_)
    have hM := hM.up1 u (by decide)
    have f_a0_X12_21 := u.2.2
    refine lv_iload_n hx hb dX12_force_26 rfl (lv_at hl 0 rfl) ?_
    rw [hQ]
    refine W.widen (k := 0) (n := 0) (Nat.le_refl _) (Nat.le_refl _) ?_
    exact W.iret (v := v17) hx hb hr (fun t ht hW => ⟨⟨v17, w_1, rfl, ⟨(by omega), (by omega), hw.2.2.2.2, hM⟩, by rw [ht]; exact hw.2.1, va_K.moved hW.alike hw.1, hw.2.2.1⟩, hw.2.2.2.1.F ht⟩) hw.2.2.2.1.2.2 dX12_force_27
  · simp only [fa_lt, fa_le, fa_eq, li_m1] at c_2
    refine lv_aload_n hx hb dX12_force_5 rfl (lv_at hl 0 rfl) ?_
    refine lv_iload_n hx hb dX12_force_6 rfl (lv_at hl 1 rfl) ?_
    refine t_calli (va_runV (As := [.int a1]) (rest := []) ⟨hx, hb, hml, hown, hts⟩ (t_X12_isRule l dC dI tys κ B ws hw.2.2.2.2 a0 k_a0 a1 s.heap.size) (cwV 1 hts (gUV tw_1440 tw_1442 ts_5_6 tw_13 tw_1443) rfl rfl rfl (by decide +kernel) ⟨(Nat.le_of_ble_eq_true rfl), (Nat.le_of_ble_eq_true rfl)⟩) ⟨cPre.blind, t_recv hw (ci := 12) k_a0 rfl rfl, cPre.use hw.2.1 hw.1 hw.2.2.1 hE⟩ rfl rfl hl.1 rfl (lv_room (Nat.le_of_ble_eq_true rfl)) dX12_force_7 ⟨(Nat.le_of_ble_eq_true rfl), (Nat.le_of_ble_eq_true rfl)⟩) hw hA (fun _ _ h => h.2.2.1) (fun v7 w_2 H locs hp hw => ?_)
    obtain ⟨l_v7, h_v7, _, hm, x_v7_0⟩ := hp
    have hM := hM.trans hm (by decide) (by decide)
    refine lv_if_ne (tgt := 16) hx hb dX12_force_10 (by decide) (fun c_10 => ?_) (fun c_10 => ?_)
    · simp only [fa_lt, fa_le, fa_eq, li_0] at c_10
      refine lv_aload_n hx hb dX12_force_16 rfl (lv_at hl 0 rfl) ?_
      refine t_geti (ci := 12) (C := RX12) (T := TX12) (N := 38) hx hb hts iX12 hown hw k_a0 rfl rfl rfl 21 (by decide) (hts _ tw_1146) (fun _ h9 => h9) dX12_force_17 rfl (fun v17 l_v17 h_v17 f_a0_X12_21 => ?_)
      have l_v17 : (-1) ≤ v17.toInt := l_v17
      have h_v17 : v17.toInt ≤ 5 := h_v17
      refine lv_istore_n (lv' := [(2, .int v17), (0, .ref a0), (1, .int a1)]) hx hb dX12_force_20 rfl hl (by decide) rfl (fun ls hl => ?_)
      refine lv_aload_n hx hb dX12_force_21 rfl (lv_at hl 1 rfl) ?_
      refine lv_iload_n hx hb dX12_force_22 rfl (lv_at hl 2 rfl) ?_
      refine t_put (ci := 12) (C := RX12) (T := TX12) (N := 38) (v := .int a1) hx hb hts iX12 tyX12 tyX12_ok nmX12 hown hw k_a0 rfl rfl rfl 21 (by decide) (hts _ tw_1146) (fun _ h9 => h9) rfl (tyX12_ok 21 (by decide)) rfl rfl (okV.int rfl (by omega) (by omega)) dX12_force_23 (fun w_3 H locs hw u => ?_)
      have hM := hM.up1 u (by decide)
      have f_a0_X12_21 := u.2.2
      refine lv_iload_n hx hb dX12_force_26 rfl (lv_at hl 0 rfl) ?_
      rw [hQ]
      refine W.widen (k := 0) (n := 0) (Nat.le_refl _) (Nat.le_refl _) ?_
      exact W.iret (v := v17) hx hb hr (fun t ht hW => ⟨⟨v17, w_3, rfl, ⟨(by omega), (by omega), hw.2.2.2.2, hM⟩, by rw [ht]; exact hw.2.1, va_K.moved hW.alike hw.1, hw.2.2.1⟩, hw.2.2.2.1.F ht⟩) hw.2.2.2.1.2.2 dX12_force_27
    · simp only [fa_lt, fa_le, fa_eq, li_0] at c_10
      refine lv_bipush (v := (-2)) hx hb dX12_force_13 (by decide) ?_
      rw [hQ]
      refine W.widen (k := 0) (n := 0) (Nat.le_refl _) (Nat.le_refl _) ?_
      exact W.iret (v := (-2)) hx hb hr (fun t ht hW => ⟨⟨(-2), w_2, rfl, ⟨(by decide), (by decide), hw.2.2.2.2, hM⟩, by rw [ht]; exact hw.2.1, va_K.moved hW.alike hw.1, hw.2.2.1⟩, hw.2.2.2.1.F ht⟩) hw.2.2.2.1.2.2 dX12_force_15
set_option maxHeartbeats 4000000 in
set_option maxRecDepth 100000 in
theorem t_X12_gainBy (l : Launch) (dC : Nat → ClassId) (dI : Nat → Nat → Nat) (tys : List (ClassId × FieldType)) (κ : tK) (B : Nat) (ws : va_W) (hT : Ty κ tys B ws) (a0 : Nat) (k_a0 : κ a0 = some 12) (a1 : Int32) (l_a1 : 0 ≤ a1.toInt) (h_a1 : a1.toInt ≤ 5) (a2 : Int32) (l_a2 : 0 ≤ a2.toInt) (h_a2 : a2.toInt ≤ 4) (a3 : Int32) (l_a3 : 0 ≤ a3.toInt) (h_a3 : a3.toInt ≤ 24) (sz : Nat) : Met l yX12_gainBy (ws_u yX12_gainBy cX12_gainBy 4 (some .int)) ({ frames := 0, cells := 0, slots := 0, locals := 0 }) (va_Pc [.ref a0, .int a1, .int a2, .int a3] (cPre (dC, dI) tys ws sz)) (va_Qi (fun (r : Int32) (w : va_W) => 0 ≤ r.toInt ∧ r.toInt ≤ 20 ∧ Ty κ tys B w ∧ Sm [] [] κ ws w) (fun w t => cPost (dC, dI) tys w (va_A ws sz) t) (va_A ws sz)) 0 0 (va_A ws sz) := by
  refine Met.ofW (cc := cX12_gainBy) (maxL := 4) (ret := (some .int)) (by decide) rfl ?_
  intro p e s m args below meth c s₁ B0 hml hv
  obtain ⟨rfl, hsz, hP, hK, hD0, hE⟩ := hv
  have hx := B0.exec
  have hb := B0.bytes
  have hr := B0.returns
  have hts0 := atoms_spec (ws := ws_u yX12_gainBy cX12_gainBy 4 (some .int)) B0.pre
  have hts : ∀ w ∈ gT, w.before _ s = true := fun w h => hts0 w (List.mem_cons_of_mem _ h)
  have hown : s.vm.findClass RX12 = some m.cls := findClass_of_methodNamed B0.named
  have hlocks := B0.notSynchronized
  subst hsz
  have hD := hD0.self (sz := s.heap.size)
  generalize hAe : va_A ws s.heap.size = A at hD ⊢
  have hA : ∀ q : Nat, s.heap.size ≤ q → A q := fun q h => by rw [← hAe]; exact Or.inr h
  have hw : tW (dC, dI) tys κ B A s ws s.heap [] := ⟨hK, hP, hD, va_S.rf, hT⟩
  have hM : Sm [] [] κ ws ws := Sm.rf
  clear hP hK hD hD0 hts0
  have hl := lv_entry ([.ref a0, .int a1, .int a2, .int a3]) (n := 4) (Nat.le_of_ble_eq_true rfl)
  rw [lg_entry_eq]
  generalize (lg_sl ([.ref a0, .int a1, .int a2, .int a3]) ++ List.replicate (4 - (lg_sl ([.ref a0, .int a1, .int a2, .int a3])).length) Slot.unset).toArray = ls at hl ⊢
  have hl : lv_has ls 4 [(0, .ref a0), (1, .int a1), (2, .int a2), (3, .int a3)] := hl
  refine t_start (fun QQ hQ => ?_)
  refine lv_aload_n hx hb dX12_gainBy_0 rfl (lv_at hl 0 rfl) ?_
  refine t_getr (k1 := 68) (ci := 12) (C := RX12) (T := TX12) (N := 38) hx hb hts iX12 hown hw k_a0 rfl rfl rfl 29 (by decide) (hts _ tw_1154) (fun _ h9 => h9) dX12_gainBy_1 rfl (fun v1 k_v1 f_a0_X12_29 => ?_)
  refine lv_iload_n hx hb dX12_gainBy_4 rfl (lv_at hl 3 rfl) ?_
  refine t_iald hx hb hw k_v1 rfl rfl (by omega) (show a3.toInt < 25 by omega) dX12_gainBy_5 (fun v5 r_v5 s_v5 q_v5 => ?_)
  have l_v5 := i32_lo v5
  have h_v5 := i32_hi v5
  refine lv_iload_n hx hb dX12_gainBy_6 rfl (lv_at hl 1 rfl) ?_
  refine lv_icmp_ne (tgt := 19) hx hb dX12_gainBy_7 (by decide) (fun c_7 => ?_) (fun c_7 => ?_)
  · simp only [fa_lt, fa_le, fa_eq] at c_7
    refine lv_iconst (v := 0) hx hb dX12_gainBy_19 (by decide) ?_
    rw [hQ]
    refine W.widen (k := 0) (n := 0) (Nat.le_refl _) (Nat.le_refl _) ?_
    exact W.iret (v := 0) hx hb hr (fun t ht hW => ⟨⟨0, ws, rfl, ⟨(by decide), (by decide), hw.2.2.2.2, hM⟩, by rw [ht]; exact hw.2.1, va_K.moved hW.alike hw.1, hw.2.2.1⟩, hw.2.2.2.1.F ht⟩) hw.2.2.2.1.2.2 dX12_gainBy_20
  · simp only [fa_lt, fa_le, fa_eq] at c_7
    refine lv_bipush (v := 20) hx hb dX12_gainBy_10 (by decide) ?_
    refine lv_iconst (v := 5) hx hb dX12_gainBy_12 (by decide) ?_
    refine lv_iload_n hx hb dX12_gainBy_13 rfl (lv_at hl 2 rfl) ?_
    refine lv_imul hx hb dX12_gainBy_14 ?_
    refine lv_topi (fun v14 e_v14 => ?_)
    have e_v14 : v14.toInt = 5 * a2.toInt := ml_i e_v14 li_5 rfl (by omega) (by omega)
    refine lv_isub hx hb dX12_gainBy_15 ?_
    refine lv_topi (fun v15 e_v15 => ?_)
    have e_v15 : v15.toInt = 20 - v14.toInt := sb_i e_v15 li_20 rfl (by omega) (by omega)
    refine lv_goto (tgt := 20) hx hb dX12_gainBy_16 (by decide) ?_
    rw [hQ]
    refine W.widen (k := 0) (n := 0) (Nat.le_refl _) (Nat.le_refl _) ?_
    exact W.iret (v := v15) hx hb hr (fun t ht hW => ⟨⟨v15, ws, rfl, ⟨(by omega), (by omega), hw.2.2.2.2, hM⟩, by rw [ht]; exact hw.2.1, va_K.moved hW.alike hw.1, hw.2.2.1⟩, hw.2.2.2.1.F ht⟩) hw.2.2.2.1.2.2 dX12_gainBy_20
set_option maxHeartbeats 4000000 in
set_option maxRecDepth 100000 in
theorem t_X12_give (l : Launch) (dC : Nat → ClassId) (dI : Nat → Nat → Nat) (tys : List (ClassId × FieldType)) (κ : tK) (B : Nat) (ws : va_W) (hT : Ty κ tys B ws) (a0 : Nat) (k_a0 : κ a0 = some 12) (a1 : Int32) (a2 : Int32) (f0 : Nat) (k_f0 : κ f0 = some 63) (f_a0_X12_20 : fld ws a0 12 20 (.ref f0)) (f1 : Int32) (l_f1 : 0 ≤ f1.toInt) (h_f1 : f1.toInt ≤ 999) (f_f0_M_said_10 : elt ws f0 (10 : Int32).toInt.toNat f1) (sz : Nat) : Met l yX12_give (ws_u yX12_give cX12_give 3 (some .int)) ({ frames := 2, cells := 0, slots := 0, locals := 43 }) (va_Pc [.ref a0, .int a1, .int a2] (cPre (dC, dI) tys ws sz)) (va_Qi (fun (r : Int32) (w : va_W) => Ty κ tys B w ∧ Sm [(12, 26)] [63, 65] κ ws w ∧ elt w f0 (10 : Int32).toInt.toNat f1) (fun w t => cPost (dC, dI) tys w (va_A ws sz) t) (va_A ws sz)) 0 0 (va_A ws sz) := by
  refine Met.ofW (cc := cX12_give) (maxL := 3) (ret := (some .int)) (by decide) rfl ?_
  intro p e s m args below meth c s₁ B0 hml hv
  obtain ⟨rfl, hsz, hP, hK, hD0, hE⟩ := hv
  have hx := B0.exec
  have hb := B0.bytes
  have hr := B0.returns
  have hts0 := atoms_spec (ws := ws_u yX12_give cX12_give 3 (some .int)) B0.pre
  have hts : ∀ w ∈ gT, w.before _ s = true := fun w h => hts0 w (List.mem_cons_of_mem _ h)
  have hown : s.vm.findClass RX12 = some m.cls := findClass_of_methodNamed B0.named
  have hlocks := B0.notSynchronized
  subst hsz
  have hD := hD0.self (sz := s.heap.size)
  generalize hAe : va_A ws s.heap.size = A at hD ⊢
  have hA : ∀ q : Nat, s.heap.size ≤ q → A q := fun q h => by rw [← hAe]; exact Or.inr h
  have hw : tW (dC, dI) tys κ B A s ws s.heap [] := ⟨hK, hP, hD, va_S.rf, hT⟩
  have hM : Sm [(12, 26)] [63, 65] κ ws ws := Sm.rf
  clear hP hK hD hD0 hts0
  have l_a1 := i32_lo a1
  have h_a1 := i32_hi a1
  have l_a2 := i32_lo a2
  have h_a2 := i32_hi a2
  have hl := lv_entry ([.ref a0, .int a1, .int a2]) (n := 3) (Nat.le_of_ble_eq_true rfl)
  rw [lg_entry_eq]
  generalize (lg_sl ([.ref a0, .int a1, .int a2]) ++ List.replicate (3 - (lg_sl ([.ref a0, .int a1, .int a2])).length) Slot.unset).toArray = ls at hl ⊢
  have hl : lv_has ls 3 [(0, .ref a0), (1, .int a1), (2, .int a2)] := hl
  refine t_start (fun QQ hQ => ?_)
  refine lv_aload_n hx hb dX12_give_0 rfl (lv_at hl 0 rfl) ?_
  refine lv_iload_n hx hb dX12_give_1 rfl (lv_at hl 1 rfl) ?_
  refine t_calli (va_runV (As := [.int a1]) (rest := []) ⟨hx, hb, hml, hown, hts⟩ (t_X12_isCanon l dC dI tys κ B ws hw.2.2.2.2 a0 k_a0 a1 s.heap.size) (cwV 1 hts (gUV tw_1465 tw_1467 ts_5_9 tw_13 tw_1468) rfl rfl rfl (by decide +kernel) ⟨(Nat.le_of_ble_eq_true rfl), (Nat.le_of_ble_eq_true rfl)⟩) ⟨cPre.blind, t_recv hw (ci := 12) k_a0 rfl rfl, cPre.use hw.2.1 hw.1 hw.2.2.1 hE⟩ rfl rfl hl.1 rfl (lv_room (Nat.le_of_ble_eq_true rfl)) dX12_give_2 ⟨(Nat.le_of_ble_eq_true rfl), (Nat.le_of_ble_eq_true rfl)⟩) hw hA (fun _ _ h => h.2.2.1) (fun v2 w_1 H locs hp hw => ?_)
  obtain ⟨l_v2, h_v2, _, hm, x_v2_0⟩ := hp
  have hM := hM.trans hm (by decide) (by decide)
  have f_a0_X12_20 := hm.1 _ _ _ _ f_a0_X12_20 (by decide)
  have f_f0_M_said_10 := hm.elt k_f0 (by decide) f_f0_M_said_10
  refine lv_if_eq (tgt := 35) hx hb dX12_give_5 (by decide) (fun c_5 => ?_) (fun c_5 => ?_)
  · simp only [fa_lt, fa_le, fa_eq, li_0] at c_5
    refine lv_iconst (v := (-1)) hx hb dX12_give_35 (by decide) ?_
    rw [hQ]
    refine W.widen (k := 0) (n := 0) (Nat.le_refl _) (Nat.le_refl _) ?_
    exact W.iret (v := (-1)) hx hb hr (fun t ht hW => ⟨⟨(-1), w_1, rfl, ⟨hw.2.2.2.2, hM, f_f0_M_said_10⟩, by rw [ht]; exact hw.2.1, va_K.moved hW.alike hw.1, hw.2.2.1⟩, hw.2.2.2.1.F ht⟩) hw.2.2.2.1.2.2 dX12_give_36
  · simp only [fa_lt, fa_le, fa_eq, li_0] at c_5
    refine lv_aload_n hx hb dX12_give_8 rfl (lv_at hl 0 rfl) ?_
    refine lv_iload_n hx hb dX12_give_9 rfl (lv_at hl 2 rfl) ?_
    refine t_calli (va_runV (As := [.int a2]) (rest := []) ⟨hx, hb, hml, hown, hts⟩ (t_X12_isAlive l dC dI tys κ B w_1 hw.2.2.2.2 a0 k_a0 a2 H.size) (cwV 1 hts (gUV tw_1571 tw_1573 ts_6_15 tw_13 tw_1574) rfl rfl rfl (by decide +kernel) ⟨(Nat.le_of_ble_eq_true rfl), (Nat.le_of_ble_eq_true rfl)⟩) ⟨cPre.blind, t_recv hw (ci := 12) k_a0 rfl rfl, cPre.use hw.2.1 hw.1 hw.2.2.1 hE⟩ rfl rfl hl.1 rfl (lv_room (Nat.le_of_ble_eq_true rfl)) dX12_give_10 ⟨(Nat.le_of_ble_eq_true rfl), (Nat.le_of_ble_eq_true rfl)⟩) hw hA (fun _ _ h => h.2.2.1) (fun v10 w_2 H locs hp hw => ?_)
    obtain ⟨l_v10, h_v10, _, hm, x_v10_0⟩ := hp
    have hM := hM.trans hm (by decide) (by decide)
    have f_a0_X12_20 := hm.1 _ _ _ _ f_a0_X12_20 (by decide)
    have f_f0_M_said_10 := hm.elt k_f0 (by decide) f_f0_M_said_10
    refine lv_if_eq (tgt := 35) hx hb dX12_give_13 (by decide) (fun c_13 => ?_) (fun c_13 => ?_)
    · simp only [fa_lt, fa_le, fa_eq, li_0] at c_13
      refine lv_iconst (v := (-1)) hx hb dX12_give_35 (by decide) ?_
      rw [hQ]
      refine W.widen (k := 0) (n := 0) (Nat.le_refl _) (Nat.le_refl _) ?_
      exact W.iret (v := (-1)) hx hb hr (fun t ht hW => ⟨⟨(-1), w_2, rfl, ⟨hw.2.2.2.2, hM, f_f0_M_said_10⟩, by rw [ht]; exact hw.2.1, va_K.moved hW.alike hw.1, hw.2.2.1⟩, hw.2.2.2.1.F ht⟩) hw.2.2.2.1.2.2 dX12_give_36
    · simp only [fa_lt, fa_le, fa_eq, li_0] at c_13
      refine lv_aload_n hx hb dX12_give_16 rfl (lv_at hl 0 rfl) ?_
      refine t_getk (ci := 12) (C := RX12) (T := TX12) (N := 38) hx hb hts iX12 hown hw rfl 20 (by decide) (hts _ tw_1145) (fun _ h9 => h9) dX12_give_17 f_a0_X12_20 ?_
      refine lv_bipush (v := 11) hx hb dX12_give_20 (by decide) ?_
      refine t_iald hx hb hw k_f0 rfl rfl (by decide) (by decide) dX12_give_22 (fun v22 r_v22 s_v22 f_f0_M_said_11 => ?_)
      have l_v22 : (-1) ≤ v22.toInt := by rw [iv_63_11] at r_v22; exact r_v22
      have h_v22 : v22.toInt ≤ 5 := by rw [iv_63_11] at s_v22; exact s_v22
      refine lv_if_lt (tgt := 35) hx hb dX12_give_23 (by decide) (fun c_23 => ?_) (fun c_23 => ?_)
      · simp only [fa_lt, fa_le, fa_eq, li_0] at c_23
        refine lv_iconst (v := (-1)) hx hb dX12_give_35 (by decide) ?_
        rw [hQ]
        refine W.widen (k := 0) (n := 0) (Nat.le_refl _) (Nat.le_refl _) ?_
        exact W.iret (v := (-1)) hx hb hr (fun t ht hW => ⟨⟨(-1), w_2, rfl, ⟨hw.2.2.2.2, hM, f_f0_M_said_10⟩, by rw [ht]; exact hw.2.1, va_K.moved hW.alike hw.1, hw.2.2.1⟩, hw.2.2.2.1.F ht⟩) hw.2.2.2.1.2.2 dX12_give_36
      · simp only [fa_lt, fa_le, fa_eq, li_0] at c_23
        refine lv_aload_n hx hb dX12_give_26 rfl (lv_at hl 0 rfl) ?_
        refine lv_iload_n hx hb dX12_give_27 rfl (lv_at hl 1 rfl) ?_
        refine lv_iconst (v := 1) hx hb dX12_give_28 (by decide) ?_
        refine t_calli (va_runV (As := [.int a1, .int 1]) (rest := []) ⟨hx, hb, hml, hown, hts⟩ (t_X12_canonOf l dC dI tys κ B w_2 hw.2.2.2.2 a0 k_a0 a1 (by omega) (by omega) 1 (by decide) (by decide) H.size) (cwV 2 hts (gUV tw_1469 tw_1471 ts_5_10 tw_13 tw_1472) rfl rfl rfl (by decide +kernel) ⟨(Nat.le_of_ble_eq_true rfl), (Nat.le_of_ble_eq_true rfl)⟩) ⟨cPre.blind, t_recv hw (ci := 12) k_a0 rfl rfl, cPre.use hw.2.1 hw.1 hw.2.2.1 hE⟩ rfl rfl hl.1 rfl (lv_room (Nat.le_of_ble_eq_true rfl)) dX12_give_29 ⟨(Nat.le_of_ble_eq_true rfl), (Nat.le_of_ble_eq_true rfl)⟩) hw hA (fun _ _ h => h.1) (fun v29 w_3 H locs hp hw => ?_)
        obtain ⟨_, hm⟩ := hp
        have l_v29 := i32_lo v29
        have h_v29 := i32_hi v29
        have hM := hM.trans hm (by decide) (by decide)
        have f_a0_X12_20 := hm.1 _ _ _ _ f_a0_X12_20 (by decide)
        have f_f0_M_said_10 := hm.elt k_f0 (by decide) f_f0_M_said_10
        have f_f0_M_said_11 := hm.elt k_f0 (by decide) f_f0_M_said_11
        refine lv_if_ne (tgt := 37) hx hb dX12_give_32 (by decide) (fun c_32 => ?_) (fun c_32 => ?_)
        · simp only [fa_lt, fa_le, fa_eq, li_0] at c_32
          refine lv_aload_n hx hb dX12_give_37 rfl (lv_at hl 0 rfl) ?_
          refine t_callv (va_runV (As := []) (rest := []) ⟨hx, hb, hml, hown, hts⟩ (t_X12_keepsAct l dC dI tys κ B w_3 hw.2.2.2.2 a0 k_a0 f0 k_f0 f_a0_X12_20 f1 (by omega) (by omega) f_f0_M_said_10 H.size) (cwV 0 hts (gUV tw_1493 tw_1495 ts_5_13 tw_13 tw_1496) rfl rfl rfl (by decide +kernel) ⟨(Nat.le_of_ble_eq_true rfl), (Nat.le_of_ble_eq_true rfl)⟩) ⟨cPre.blind, t_recv hw (ci := 12) k_a0 rfl rfl, cPre.use hw.2.1 hw.1 hw.2.2.1 hE⟩ rfl rfl hl.1 rfl (lv_room (Nat.le_of_ble_eq_true rfl)) dX12_give_38 ⟨(Nat.le_of_ble_eq_true rfl), (Nat.le_of_ble_eq_true rfl)⟩) hw hA (fun _ h => h.1) (fun w_4 H locs hp hw => ?_)
          obtain ⟨_, hm⟩ := hp
          have hM := hM.trans hm (by decide) (by decide)
          have f_a0_X12_20 := hm.1 _ _ _ _ f_a0_X12_20 (by decide)
          have f_f0_M_said_10 := hm.elt k_f0 (by decide) f_f0_M_said_10
          have f_f0_M_said_11 := hm.elt k_f0 (by decide) f_f0_M_said_11
          refine lv_aload_n hx hb dX12_give_41 rfl (lv_at hl 0 rfl) ?_
          refine t_getk (ci := 12) (C := RX12) (T := TX12) (N := 38) hx hb hts iX12 hown hw rfl 20 (by decide) (hts _ tw_1145) (fun _ h9 => h9) dX12_give_42 f_a0_X12_20 ?_
          refine lv_bipush (v := 40) hx hb dX12_give_45 (by decide) ?_
          refine lv_iconst (v := 3) hx hb dX12_give_47 (by decide) ?_
          refine lv_iload_n hx hb dX12_give_48 rfl (lv_at hl 1 rfl) ?_
          refine lv_imul hx hb dX12_give_49 ?_
          refine lv_topi (fun v49 e_v49 => ?_)
          have e_v49 : v49.toInt = 3 * a1.toInt := ml_i e_v49 li_3 rfl (by omega) (by omega)
          refine lv_iadd hx hb dX12_give_50 ?_
          refine lv_topi (fun v50 e_v50 => ?_)
          have e_v50 : v50.toInt = 40 + v49.toInt := ad_i e_v50 li_40 rfl (by omega) (by omega)
          refine lv_iconst (v := 1) hx hb dX12_give_51 (by decide) ?_
          refine lv_iadd hx hb dX12_give_52 ?_
          refine lv_topi (fun v52 e_v52 => ?_)
          have e_v52 : v52.toInt = v50.toInt + 1 := ad_i e_v52 rfl li_1 (by omega) (by omega)
          refine lv_iconst (v := 0) hx hb dX12_give_53 (by decide) ?_
          refine t_iast hx hb hw k_f0 rfl rfl (by omega) (show v52.toInt < 306 by omega) (by rw [fr_63 (by omega) (by omega)]; exact i32_lo _) (by rw [fr_63 (by omega) (by omega)]; exact i32_hi _) dX12_give_54 (fun w_5 H locs hw u => ?_)
          have hM := hM.up3 u k_f0 (by decide)
          have f_a0_X12_20 := u.1 _ _ _ _ f_a0_X12_20
          have f_f0_M_said_10 := u.2.2.1 _ _ _ f_f0_M_said_10 (Or.inr (by rw [show (10 : Int32).toInt.toNat = 10 by decide]; omega))
          have f_f0_M_said_11 := u.2.2.1 _ _ _ f_f0_M_said_11 (Or.inr (by rw [show (11 : Int32).toInt.toNat = 11 by decide]; omega))
          refine lv_aload_n hx hb dX12_give_55 rfl (lv_at hl 0 rfl) ?_
          refine t_getk (ci := 12) (C := RX12) (T := TX12) (N := 38) hx hb hts iX12 hown hw rfl 20 (by decide) (hts _ tw_1145) (fun _ h9 => h9) dX12_give_56 f_a0_X12_20 ?_
          refine lv_bipush (v := 40) hx hb dX12_give_59 (by decide) ?_
          refine lv_iconst (v := 3) hx hb dX12_give_61 (by decide) ?_
          refine lv_iload_n hx hb dX12_give_62 rfl (lv_at hl 2 rfl) ?_
          refine lv_imul hx hb dX12_give_63 ?_
          refine lv_topi (fun v63 e_v63 => ?_)
          have e_v63 : v63.toInt = 3 * a2.toInt := ml_i e_v63 li_3 rfl (by omega) (by omega)
          refine lv_iadd hx hb dX12_give_64 ?_
          refine lv_topi (fun v64 e_v64 => ?_)
          have e_v64 : v64.toInt = 40 + v63.toInt := ad_i e_v64 li_40 rfl (by omega) (by omega)
          refine lv_iconst (v := 2) hx hb dX12_give_65 (by decide) ?_
          refine lv_iadd hx hb dX12_give_66 ?_
          refine lv_topi (fun v66 e_v66 => ?_)
          have e_v66 : v66.toInt = v64.toInt + 2 := ad_i e_v66 rfl li_2 (by omega) (by omega)
          refine lv_iload_n hx hb dX12_give_67 rfl (lv_at hl 1 rfl) ?_
          refine t_iast hx hb hw k_f0 rfl rfl (by omega) (show v66.toInt < 306 by omega) (by rw [fr_63 (by omega) (by omega)]; exact i32_lo _) (by rw [fr_63 (by omega) (by omega)]; exact i32_hi _) dX12_give_68 (fun w_6 H locs hw u => ?_)
          have hM := hM.up3 u k_f0 (by decide)
          have f_a0_X12_20 := u.1 _ _ _ _ f_a0_X12_20
          have f_f0_M_said_10 := u.2.2.1 _ _ _ f_f0_M_said_10 (Or.inr (by rw [show (10 : Int32).toInt.toNat = 10 by decide]; omega))
          have f_f0_M_said_11 := u.2.2.1 _ _ _ f_f0_M_said_11 (Or.inr (by rw [show (11 : Int32).toInt.toNat = 11 by decide]; omega))
          refine lv_aload_n hx hb dX12_give_69 rfl (lv_at hl 0 rfl) ?_
          refine t_getk (ci := 12) (C := RX12) (T := TX12) (N := 38) hx hb hts iX12 hown hw rfl 20 (by decide) (hts _ tw_1145) (fun _ h9 => h9) dX12_give_70 f_a0_X12_20 ?_
          refine lv_bipush (v := 110) hx hb dX12_give_73 (by decide) ?_
          refine lv_iload_n hx hb dX12_give_75 rfl (lv_at hl 1 rfl) ?_
          refine lv_iadd hx hb dX12_give_76 ?_
          refine lv_topi (fun v76 e_v76 => ?_)
          have e_v76 : v76.toInt = 110 + a1.toInt := ad_i e_v76 li_110 rfl (by omega) (by omega)
          refine t_iald hx hb hw k_f0 rfl rfl (by omega) (show v76.toInt < 306 by omega) dX12_give_77 (fun v77 r_v77 s_v77 q_v77 => ?_)
          have l_v77 := i32_lo v77
          have h_v77 := i32_hi v77
          rw [hQ]
          refine W.widen (k := 0) (n := 0) (Nat.le_refl _) (Nat.le_refl _) ?_
          exact W.iret (v := v77) hx hb hr (fun t ht hW => ⟨⟨v77, w_6, rfl, ⟨hw.2.2.2.2, hM, f_f0_M_said_10⟩, by rw [ht]; exact hw.2.1, va_K.moved hW.alike hw.1, hw.2.2.1⟩, hw.2.2.2.1.F ht⟩) hw.2.2.2.1.2.2 dX12_give_78
        · simp only [fa_lt, fa_le, fa_eq, li_0] at c_32
          refine lv_iconst (v := (-1)) hx hb dX12_give_35 (by decide) ?_
          rw [hQ]
          refine W.widen (k := 0) (n := 0) (Nat.le_refl _) (Nat.le_refl _) ?_
          exact W.iret (v := (-1)) hx hb hr (fun t ht hW => ⟨⟨(-1), w_3, rfl, ⟨hw.2.2.2.2, hM, f_f0_M_said_10⟩, by rw [ht]; exact hw.2.1, va_K.moved hW.alike hw.1, hw.2.2.1⟩, hw.2.2.2.1.F ht⟩) hw.2.2.2.1.2.2 dX12_give_36
set_option maxHeartbeats 4000000 in
set_option maxRecDepth 100000 in
theorem t_X12_goneTill (l : Launch) (dC : Nat → ClassId) (dI : Nat → Nat → Nat) (tys : List (ClassId × FieldType)) (κ : tK) (B : Nat) (ws : va_W) (hT : Ty κ tys B ws) (a0 : Nat) (k_a0 : κ a0 = some 12) (a1 : Int32) (l_a1 : 0 ≤ a1.toInt) (h_a1 : a1.toInt ≤ 63) (a2 : Int32) (l_a2 : 0 ≤ a2.toInt) (h_a2 : a2.toInt ≤ 5) (sz : Nat) : Met l yX12_goneTill (ws_u yX12_goneTill cX12_goneTill 7 (some .int)) ({ frames := 1, cells := 0, slots := 0, locals := 22 }) (va_Pc [.ref a0, .int a1, .int a2] (cPre (dC, dI) tys ws sz)) (va_Qi (fun (r : Int32) (w : va_W) => Ty κ tys B w ∧ Sm [] [] κ ws w) (fun w t => cPost (dC, dI) tys w (va_A ws sz) t) (va_A ws sz)) 0 0 (va_A ws sz) := by
  refine Met.ofW (cc := cX12_goneTill) (maxL := 7) (ret := (some .int)) (by decide) rfl ?_
  intro p e s m args below meth c s₁ B0 hml hv
  obtain ⟨rfl, hsz, hP, hK, hD0, hE⟩ := hv
  have hx := B0.exec
  have hb := B0.bytes
  have hr := B0.returns
  have hts0 := atoms_spec (ws := ws_u yX12_goneTill cX12_goneTill 7 (some .int)) B0.pre
  have hts : ∀ w ∈ gT, w.before _ s = true := fun w h => hts0 w (List.mem_cons_of_mem _ h)
  have hown : s.vm.findClass RX12 = some m.cls := findClass_of_methodNamed B0.named
  have hlocks := B0.notSynchronized
  subst hsz
  have hD := hD0.self (sz := s.heap.size)
  generalize hAe : va_A ws s.heap.size = A at hD ⊢
  have hA : ∀ q : Nat, s.heap.size ≤ q → A q := fun q h => by rw [← hAe]; exact Or.inr h
  have hw : tW (dC, dI) tys κ B A s ws s.heap [] := ⟨hK, hP, hD, va_S.rf, hT⟩
  have hM : Sm [] [] κ ws ws := Sm.rf
  clear hP hK hD hD0 hts0
  have hl := lv_entry ([.ref a0, .int a1, .int a2]) (n := 7) (Nat.le_of_ble_eq_true rfl)
  rw [lg_entry_eq]
  generalize (lg_sl ([.ref a0, .int a1, .int a2]) ++ List.replicate (7 - (lg_sl ([.ref a0, .int a1, .int a2])).length) Slot.unset).toArray = ls at hl ⊢
  have hl : lv_has ls 7 [(0, .ref a0), (1, .int a1), (2, .int a2)] := hl
  refine t_start (fun QQ hQ => ?_)
  refine lv_iload_n hx hb dX12_goneTill_0 rfl (lv_at hl 1 rfl) ?_
  refine lv_iconst (v := 1) hx hb dX12_goneTill_1 (by decide) ?_
  refine lv_iload_n hx hb dX12_goneTill_2 rfl (lv_at hl 2 rfl) ?_
  refine lv_ishl hx hb dX12_goneTill_3 ?_
  refine lv_topi (fun v3 e_v3 => ?_)
  have ⟨l_v3, h_v3⟩ := sh_i e_v3 (by omega) (by omega)
  refine lv_iconst (v := (-1)) hx hb dX12_goneTill_4 (by decide) ?_
  refine lv_ixor hx hb dX12_goneTill_5 ?_
  refine lv_topi (fun v5 e_v5 => ?_)
  have l_v5 := i32_lo v5
  have h_v5 := i32_hi v5
  refine lv_iand hx hb dX12_goneTill_6 ?_
  refine lv_topi (fun v6 e_v6 => ?_)
  have ⟨l_v6, h_v6⟩ : 0 ≤ v6.toInt ∧ v6.toInt ≤ a1.toInt := and_l e_v6 rfl (by omega)
  refine lv_istore_n (lv' := [(3, .int v6), (0, .ref a0), (1, .int a1), (2, .int a2)]) hx hb dX12_goneTill_7 rfl hl (by decide) rfl (fun ls hl => ?_)
  refine lv_iload_n hx hb dX12_goneTill_8 rfl (lv_at hl 0 rfl) ?_
  refine lv_if_ne (tgt := 21) hx hb dX12_goneTill_9 (by decide) (fun c_9 => ?_) (fun c_9 => ?_)
  · simp only [fa_lt, fa_le, fa_eq, li_0] at c_9
    refine lv_sipush (v := 999) hx hb dX12_goneTill_21 (by decide) ?_
    refine lv_istore (lv' := [(4, .int 999), (3, .int v6), (0, .ref a0), (1, .int a1), (2, .int a2)]) hx hb dX12_goneTill_24 hl (by decide) rfl (fun ls hl => ?_)
    refine lv_iconst (v := 0) hx hb dX12_goneTill_26 (by decide) ?_
    refine lv_istore (lv' := [(5, .int 0), (4, .int 999), (3, .int v6), (0, .ref a0), (1, .int a1), (2, .int a2)]) hx hb dX12_goneTill_27 hl (by decide) rfl (fun ls hl => ?_)
    have J29 : ∀ (n : Nat) (H : Heap) (locs : List Loc) (ls : Array Slot), (∃ (w29 : va_W) (p29_l4 : Int32) (p29_l5 : Int32), tW (dC, dI) tys κ B A s w29 H locs ∧ Sm [] [] κ ws w29 ∧ (-2147483648) ≤ p29_l4.toInt ∧ p29_l4.toInt ≤ 999 ∧ 0 ≤ p29_l5.toInt ∧ p29_l5.toInt ≤ 6 ∧ lv_has ls 7 [(0, .ref a0), (1, .int a1), (2, .int a2), (3, .int v6), (4, .int p29_l4), (5, .int p29_l5)] ∧ (6 - p29_l5.toInt).toNat = n) → W p l e (headSpec (ws_u yX12_goneTill cX12_goneTill 7 (some .int)) ({ frames := 1, cells := 0, slots := 0, locals := 22 })).room s m ([.ref a0, .int a1, .int a2] : List Value).toArray below meth c H locs 0 0 QQ (F0 m 29 ls []) := by
      refine loopT _ ?_
      intro n_29 H locs ls hI ih_29
      obtain ⟨w29, p29_l4, p29_l5, hw, hM, l_p29_l4, h_p29_l4, l_p29_l5, h_p29_l5, hl, hn_29⟩ := hI
      refine lv_iload hx hb dX12_goneTill_29 (lv_at hl 5 rfl) ?_
      refine lv_aload_n hx hb dX12_goneTill_31 rfl (lv_at hl 0 rfl) ?_
      refine t_getr (k1 := 63) (ci := 12) (C := RX12) (T := TX12) (N := 38) hx hb hts iX12 hown hw k_a0 rfl rfl rfl 20 (by decide) (hts _ tw_1145) (fun _ h9 => h9) dX12_goneTill_32 rfl (fun v32 k_v32 f_a0_X12_20 => ?_)
      refine lv_iconst (v := 5) hx hb dX12_goneTill_35 (by decide) ?_
      refine t_iald hx hb hw k_v32 rfl rfl (by decide) (by decide) dX12_goneTill_36 (fun v36 r_v36 s_v36 f_v32_M_said_5 => ?_)
      have l_v36 : 0 ≤ v36.toInt := by rw [iv_63_5] at r_v36; exact r_v36
      have h_v36 : v36.toInt ≤ 6 := by rw [iv_63_5] at s_v36; exact s_v36
      refine lv_icmp_ge (tgt := 100) hx hb dX12_goneTill_37 (by decide) (fun c_37 => ?_) (fun c_37 => ?_)
      · simp only [fa_lt, fa_le, fa_eq] at c_37
        refine lv_iload hx hb dX12_goneTill_100 (lv_at hl 4 rfl) ?_
        rw [hQ]
        refine W.widen (k := 0) (n := 0) (Nat.le_refl _) (Nat.le_refl _) ?_
        exact W.iret (v := p29_l4) hx hb hr (fun t ht hW => ⟨⟨p29_l4, w29, rfl, ⟨hw.2.2.2.2, hM⟩, by rw [ht]; exact hw.2.1, va_K.moved hW.alike hw.1, hw.2.2.1⟩, hw.2.2.2.1.F ht⟩) hw.2.2.2.1.2.2 dX12_goneTill_102
      · simp only [fa_lt, fa_le, fa_eq] at c_37
        refine lv_iload_n hx hb dX12_goneTill_40 rfl (lv_at hl 3 rfl) ?_
        refine lv_iload hx hb dX12_goneTill_41 (lv_at hl 5 rfl) ?_
        refine t_calli (va_runS (As := [.int v6, .int p29_l5]) (rest := []) ⟨hx, hb, hml, hown, hts⟩ (t_X12_isOf l dC dI tys κ B w29 hw.2.2.2.2 v6 p29_l5 (by omega) (by omega) H.size) (va_cwS 2 hts (gUS tw_1637 tw_1638 tw_13 tw_1639) rfl rfl rfl (by decide +kernel) ⟨(Nat.le_of_ble_eq_true rfl), (Nat.le_of_ble_eq_true rfl)⟩) ⟨cPre.blind, cPre.use hw.2.1 hw.1 hw.2.2.1 hE⟩ rfl rfl hl.1 rfl (lv_room (Nat.le_of_ble_eq_true rfl)) dX12_goneTill_43 ⟨(Nat.le_of_ble_eq_true rfl), (Nat.le_of_ble_eq_true rfl)⟩) hw hA (fun _ _ h => h.2.2.1) (fun v43 w_1 H locs hp hw => ?_)
        obtain ⟨l_v43, h_v43, _, hm⟩ := hp
        have hM := hM.trans hm (by decide) (by decide)
        have f_a0_X12_20 := hm.1 _ _ _ _ f_a0_X12_20 (by decide)
        have f_v32_M_said_5 := hm.elt k_v32 (by decide) f_v32_M_said_5
        have J94 : ∀ (H : Heap) (locs : List Loc) (ls : Array Slot) (w94 : va_W) (p94_l4 : Int32), tW (dC, dI) tys κ B A s w94 H locs → Sm [] [] κ ws w94 → (-2147483648) ≤ p94_l4.toInt → p94_l4.toInt ≤ 999 → fld w94 a0 12 20 (.ref v32) → elt w94 v32 (5 : Int32).toInt.toNat v36 → lv_has ls 7 [(0, .ref a0), (1, .int a1), (2, .int a2), (3, .int v6), (4, .int p94_l4), (5, .int p29_l5)] → W p l e (headSpec (ws_u yX12_goneTill cX12_goneTill 7 (some .int)) ({ frames := 1, cells := 0, slots := 0, locals := 22 })).room s m ([.ref a0, .int a1, .int a2] : List Value).toArray below meth c H locs 0 0 QQ (F0 m 94 ls []) := by
          intro H locs ls w94 p94_l4 hw hM l_p94_l4 h_p94_l4 f_a0_X12_20 f_v32_M_said_5 hl
          obtain ⟨v94, e_v94⟩ : ∃ y : Int32, y = p29_l5 + 1 := ⟨_, rfl⟩
          refine lv_iinc (v := v94) (lv' := [(5, .int v94), (0, .ref a0), (1, .int a1), (2, .int a2), (3, .int v6), (4, .int p94_l4)]) hx hb dX12_goneTill_94 hl (k := 5) rfl e_v94.symm (by decide) rfl (fun ls hl => ?_)
          have e_v94 : v94.toInt = p29_l5.toInt + 1 := ad_i e_v94 rfl li_1 (by omega) (by omega)
          refine lv_goto (tgt := 29) hx hb dX12_goneTill_97 (by decide) ?_
          exact ih_29 _ _ _ _ (by omega) ⟨w94, p94_l4, v94, hw, hM, (by omega), (by omega), (by omega), (by omega), (lv_sub hl [1, 2, 3, 4, 5, 0] rfl), rfl⟩
        refine lv_if_ne (tgt := 52) hx hb dX12_goneTill_46 (by decide) (fun c_46 => ?_) (fun c_46 => ?_)
        · simp only [fa_lt, fa_le, fa_eq, li_0] at c_46
          refine lv_aload_n hx hb dX12_goneTill_52 rfl (lv_at hl 0 rfl) ?_
          refine t_getr (k1 := 69) (ci := 12) (C := RX12) (T := TX12) (N := 38) hx hb hts iX12 hown hw k_a0 rfl rfl rfl 30 (by decide) (hts _ tw_1155) (fun _ h9 => h9) dX12_goneTill_53 rfl (fun v53 k_v53 f_a0_X12_30 => ?_)
          refine lv_bipush (v := 6) hx hb dX12_goneTill_56 (by decide) ?_
          refine lv_iload_n hx hb dX12_goneTill_58 rfl (lv_at hl 3 rfl) ?_
          refine lv_imul hx hb dX12_goneTill_59 ?_
          refine lv_topi (fun v59 e_v59 => ?_)
          have e_v59 : v59.toInt = 6 * v6.toInt := ml_i e_v59 li_6 rfl (by omega) (by omega)
          refine lv_iload hx hb dX12_goneTill_60 (lv_at hl 5 rfl) ?_
          refine lv_iadd hx hb dX12_goneTill_62 ?_
          refine lv_topi (fun v62 e_v62 => ?_)
          have e_v62 : v62.toInt = v59.toInt + p29_l5.toInt := ad_i e_v62 rfl rfl (by omega) (by omega)
          refine t_iald hx hb hw k_v53 rfl rfl (by omega) (show v62.toInt < 384 by omega) dX12_goneTill_63 (fun v63 r_v63 s_v63 q_v63 => ?_)
          have l_v63 := i32_lo v63
          have h_v63 := i32_hi v63
          refine lv_aload_n hx hb dX12_goneTill_64 rfl (lv_at hl 0 rfl) ?_
          refine lv_iload hx hb dX12_goneTill_65 (lv_at hl 5 rfl) ?_
          refine lv_iconst (v := 1) hx hb dX12_goneTill_67 (by decide) ?_
          refine lv_iadd hx hb dX12_goneTill_68 ?_
          refine lv_topi (fun v68 e_v68 => ?_)
          have e_v68 : v68.toInt = p29_l5.toInt + 1 := ad_i e_v68 rfl li_1 (by omega) (by omega)
          refine lv_iload_n hx hb dX12_goneTill_69 rfl (lv_at hl 2 rfl) ?_
          refine lv_iconst (v := 1) hx hb dX12_goneTill_70 (by decide) ?_
          refine lv_iadd hx hb dX12_goneTill_71 ?_
          refine lv_topi (fun v71 e_v71 => ?_)
          have e_v71 : v71.toInt = a2.toInt + 1 := ad_i e_v71 rfl li_1 (by omega) (by omega)
          refine t_calli (va_runV (As := [.int v68, .int v71]) (rest := [.int v63]) ⟨hx, hb, hml, hown, hts⟩ (t_X12_farOf l dC dI tys κ B w_1 hw.2.2.2.2 a0 k_a0 v68 (by omega) (by omega) v71 (by omega) (by omega) H.size) (cwV 2 hts (gUV tw_1428 tw_1430 ts_5_4 tw_13 tw_1431) rfl rfl rfl (by decide +kernel) ⟨(Nat.le_of_ble_eq_true rfl), (Nat.le_of_ble_eq_true rfl)⟩) ⟨cPre.blind, t_recv hw (ci := 12) k_a0 rfl rfl, cPre.use hw.2.1 hw.1 hw.2.2.1 hE⟩ rfl rfl hl.1 rfl (lv_room (Nat.le_of_ble_eq_true rfl)) dX12_goneTill_72 ⟨(Nat.le_of_ble_eq_true rfl), (Nat.le_of_ble_eq_true rfl)⟩) hw hA (fun _ _ h => h.1) (fun v72 w_2 H locs hp hw => ?_)
          obtain ⟨_, hm⟩ := hp
          have l_v72 := i32_lo v72
          have h_v72 := i32_hi v72
          have hM := hM.trans hm (by decide) (by decide)
          have f_a0_X12_20 := hm.1 _ _ _ _ f_a0_X12_20 (by decide)
          have f_v32_M_said_5 := hm.elt k_v32 (by decide) f_v32_M_said_5
          have f_a0_X12_30 := hm.1 _ _ _ _ f_a0_X12_30 (by decide)
          refine lv_iadd hx hb dX12_goneTill_75 ?_
          refine lv_topi (fun v75 e_v75 => ?_)
          have l_v75 := i32_lo v75
          have h_v75 := i32_hi v75
          refine lv_istore (lv' := [(6, .int v75), (0, .ref a0), (1, .int a1), (2, .int a2), (3, .int v6), (4, .int p29_l4), (5, .int p29_l5)]) hx hb dX12_goneTill_76 hl (by decide) rfl (fun ls hl => ?_)
          refine lv_iload hx hb dX12_goneTill_78 (lv_at hl 0 rfl) ?_
          refine lv_iload hx hb dX12_goneTill_80 (lv_at hl 5 rfl) ?_
          have J92 : ∀ (H : Heap) (locs : List Loc) (ls : Array Slot) (w92 : va_W) (p92_s0 : Int32), tW (dC, dI) tys κ B A s w92 H locs → Sm [] [] κ ws w92 → (-2147483648) ≤ p92_s0.toInt → p92_s0.toInt ≤ 999 → fld w92 a0 12 20 (.ref v32) → fld w92 a0 12 30 (.ref v53) → elt w92 v32 (5 : Int32).toInt.toNat v36 → lv_has ls 7 [(0, .ref a0), (1, .int a1), (2, .int a2), (3, .int v6), (4, .int p29_l4), (5, .int p29_l5), (6, .int v75)] → W p l e (headSpec (ws_u yX12_goneTill cX12_goneTill 7 (some .int)) ({ frames := 1, cells := 0, slots := 0, locals := 22 })).room s m ([.ref a0, .int a1, .int a2] : List Value).toArray below meth c H locs 0 0 QQ (F0 m 92 ls [.int p92_s0]) := by
            intro H locs ls w92 p92_s0 hw hM l_p92_s0 h_p92_s0 f_a0_X12_20 f_a0_X12_30 f_v32_M_said_5 hl
            refine lv_istore (lv' := [(4, .int p92_s0), (0, .ref a0), (1, .int a1), (2, .int a2), (3, .int v6), (5, .int p29_l5), (6, .int v75)]) hx hb dX12_goneTill_92 hl (by decide) rfl (fun ls hl => ?_)
            exact J94 _ _ _ w92 p92_s0 hw hM (by omega) (by omega) f_a0_X12_20 f_v32_M_said_5 (lv_sub hl [1, 2, 3, 4, 0, 5] rfl)
          refine lv_icmp_ge (tgt := 90) hx hb dX12_goneTill_82 (by decide) (fun c_82 => ?_) (fun c_82 => ?_)
          · simp only [fa_lt, fa_le, fa_eq] at c_82
            refine lv_iload hx hb dX12_goneTill_90 (lv_at hl 5 rfl) ?_
            exact J92 _ _ _ w_2 p29_l4 hw hM (by omega) (by omega) f_a0_X12_20 f_a0_X12_30 f_v32_M_said_5 (lv_sub hl [1, 2, 3, 4, 5, 6, 0] rfl)
          · simp only [fa_lt, fa_le, fa_eq] at c_82
            refine lv_iload hx hb dX12_goneTill_85 (lv_at hl 0 rfl) ?_
            refine lv_goto (tgt := 92) hx hb dX12_goneTill_87 (by decide) ?_
            exact J92 _ _ _ w_2 v75 hw hM (by omega) (by omega) f_a0_X12_20 f_a0_X12_30 f_v32_M_said_5 (lv_sub hl [1, 2, 3, 4, 5, 6, 0] rfl)
        · simp only [fa_lt, fa_le, fa_eq, li_0] at c_46
          refine lv_goto (tgt := 94) hx hb dX12_goneTill_49 (by decide) ?_
          exact J94 _ _ _ w_1 p29_l4 hw hM (by omega) (by omega) f_a0_X12_20 f_v32_M_said_5 (lv_sub hl [0, 1, 2, 3, 4, 5] rfl)
    exact J29 _ _ _ _ ⟨ws, 999, 0, hw, hM, (by decide), (by decide), (by decide), (by decide), (lv_sub hl [3, 4, 5, 2, 1, 0] rfl), rfl⟩
  · simp only [fa_lt, fa_le, fa_eq, li_0] at c_9
    refine lv_aload_n hx hb dX12_goneTill_12 rfl (lv_at hl 1 rfl) ?_
    refine lv_iconst (v := 0) hx hb dX12_goneTill_13 (by decide) ?_
    refine lv_iload_n hx hb dX12_goneTill_14 rfl (lv_at hl 3 rfl) ?_
    refine lv_iconst (v := 1) hx hb dX12_goneTill_15 (by decide) ?_
    refine lv_iadd hx hb dX12_goneTill_16 ?_
    refine lv_topi (fun v16 e_v16 => ?_)
    have e_v16 : v16.toInt = a2.toInt + 1 := ad_i e_v16 rfl li_1 (by omega) (by omega)
    refine t_calli (va_runV (As := [.int 0, .int v16]) (rest := []) ⟨hx, hb, hml, hown, hts⟩ (t_X12_farOf l dC dI tys κ B ws hw.2.2.2.2 a0 k_a0 0 (by decide) (by decide) v16 (by omega) (by omega) s.heap.size) (cwV 2 hts (gUV tw_1428 tw_1430 ts_5_4 tw_13 tw_1431) rfl rfl rfl (by decide +kernel) ⟨(Nat.le_of_ble_eq_true rfl), (Nat.le_of_ble_eq_true rfl)⟩) ⟨cPre.blind, t_recv hw (ci := 12) k_a0 rfl rfl, cPre.use hw.2.1 hw.1 hw.2.2.1 hE⟩ rfl rfl hl.1 rfl (lv_room (Nat.le_of_ble_eq_true rfl)) dX12_goneTill_17 ⟨(Nat.le_of_ble_eq_true rfl), (Nat.le_of_ble_eq_true rfl)⟩) hw hA (fun _ _ h => h.1) (fun v17 w_3 H locs hp hw => ?_)
    obtain ⟨_, hm⟩ := hp
    have l_v17 := i32_lo v17
    have h_v17 := i32_hi v17
    have hM := hM.trans hm (by decide) (by decide)
    rw [hQ]
    refine W.widen (k := 0) (n := 0) (Nat.le_refl _) (Nat.le_refl _) ?_
    exact W.iret (v := v17) hx hb hr (fun t ht hW => ⟨⟨v17, w_3, rfl, ⟨hw.2.2.2.2, hM⟩, by rw [ht]; exact hw.2.1, va_K.moved hW.alike hw.1, hw.2.2.1⟩, hw.2.2.2.1.F ht⟩) hw.2.2.2.1.2.2 dX12_goneTill_20
