theorem ts_6_11 : Cond.selects "BoyBishopModel" ⟨"BoyBishopModel", "votesOf", "(I)I"⟩ ⟨"BoyBishopModel", "votesOf", "(I)I"⟩ ∈ gT := gT_in (List.mem_append_left _ (List.mem_map.mpr ⟨(⟨"BoyBishopModel", "votesOf", "(I)I"⟩, 38), (List.mem_append_right _ (List.mem_append_right _ (List.mem_append_right _ (List.mem_append_right _ (List.mem_append_right _ (List.mem_append_right _ (List.mem_append_left _ (List.mem_of_getElem? (i := 11) rfl)))))))), rfl⟩)) rfl
theorem tw_1125 : (Jvm.Cond.fieldLink "BoyBishopModel" (7 : Nat) "BoyBishopModel" "tape" "[B") ∈ gT := gT_in (List.mem_append_right _ (List.mem_append_right _ (List.mem_append_right _ (List.mem_append_right _ (List.mem_append_right _ (List.mem_append_left _ (List.mem_of_getElem? (i := 165) rfl))))))) rfl
theorem tw_1126 : (Jvm.Cond.fieldLink "BoyBishopModel" (83 : Nat) "BoyBishopModel" "taped" "I") ∈ gT := gT_in (List.mem_append_right _ (List.mem_append_right _ (List.mem_append_right _ (List.mem_append_right _ (List.mem_append_right _ (List.mem_append_left _ (List.mem_of_getElem? (i := 166) rfl))))))) rfl
theorem tw_1127 : (Jvm.Cond.fieldLink "BoyBishopModel" (271 : Nat) "BoyBishopModel" "rules" "I") ∈ gT := gT_in (List.mem_append_right _ (List.mem_append_right _ (List.mem_append_right _ (List.mem_append_right _ (List.mem_append_right _ (List.mem_append_left _ (List.mem_of_getElem? (i := 167) rfl))))))) rfl
theorem tw_1133 : (Jvm.Cond.fieldLink "BoyBishopModel" (93 : Nat) "BoyBishopModel" "next" "I") ∈ gT := gT_in (List.mem_append_right _ (List.mem_append_right _ (List.mem_append_right _ (List.mem_append_right _ (List.mem_append_right _ (List.mem_append_left _ (List.mem_of_getElem? (i := 173) rfl))))))) rfl
theorem tw_1134 : (Jvm.Cond.fieldLink "BoyBishopModel" (90 : Nat) "BoyBishopModel" "wrong" "I") ∈ gT := gT_in (List.mem_append_right _ (List.mem_append_right _ (List.mem_append_right _ (List.mem_append_right _ (List.mem_append_right _ (List.mem_append_left _ (List.mem_of_getElem? (i := 174) rfl))))))) rfl
theorem tw_1148 : (Jvm.Cond.fieldLink "BoyBishopModel" (46 : Nat) "BoyBishopModel" "vote" "[I") ∈ gT := gT_in (List.mem_append_right _ (List.mem_append_right _ (List.mem_append_right _ (List.mem_append_right _ (List.mem_append_right _ (List.mem_append_left _ (List.mem_of_getElem? (i := 188) rfl))))))) rfl
theorem tw_1156 : (Jvm.Cond.fieldLink "BoyBishopModel" (64 : Nat) "BoyBishopModel" "isFit" "[Z") ∈ gT := gT_in (List.mem_append_right _ (List.mem_append_right _ (List.mem_append_right _ (List.mem_append_right _ (List.mem_append_right _ (List.mem_append_left _ (List.mem_of_getElem? (i := 196) rfl))))))) rfl
theorem tw_1157 : (Jvm.Cond.fieldLink "BoyBishopModel" (68 : Nat) "BoyBishopModel" "bishopThen" "[I") ∈ gT := gT_in (List.mem_append_right _ (List.mem_append_right _ (List.mem_append_right _ (List.mem_append_right _ (List.mem_append_right _ (List.mem_append_left _ (List.mem_of_getElem? (i := 197) rfl))))))) rfl
theorem tw_1552 : (Jvm.Cond.methodLink "BoyBishopModel" (346 : Nat) ({ cls := "BoyBishopModel", name := "votesOf", desc := "(I)I" } : Jvm.MethodName)) ∈ gT := gT_in (List.mem_append_right _ (List.mem_append_right _ (List.mem_append_right _ (List.mem_append_right _ (List.mem_append_right _ (List.mem_append_right _ (List.mem_append_right _ (List.mem_append_left _ (List.mem_of_getElem? (i := 112) rfl))))))))) rfl
theorem tw_1554 : (Jvm.Cond.instanceMethod ({ cls := "BoyBishopModel", name := "votesOf", desc := "(I)I" } : Jvm.MethodName)) ∈ gT := gT_in (List.mem_append_right _ (List.mem_append_right _ (List.mem_append_right _ (List.mem_append_right _ (List.mem_append_right _ (List.mem_append_right _ (List.mem_append_right _ (List.mem_append_left _ (List.mem_of_getElem? (i := 114) rfl))))))))) rfl
theorem tw_1555 : (Jvm.Cond.code ({ cls := "BoyBishopModel", name := "votesOf", desc := "(I)I" } : Jvm.MethodName) prog_14_method_73_code (4 : Nat) (Option.some Jvm.ClassFile.FieldType.int)) ∈ gT := gT_in (List.mem_append_right _ (List.mem_append_right _ (List.mem_append_right _ (List.mem_append_right _ (List.mem_append_right _ (List.mem_append_right _ (List.mem_append_right _ (List.mem_append_left _ (List.mem_of_getElem? (i := 115) rfl))))))))) rfl
theorem tw_1712 : (Jvm.Cond.methodLink "BoyBishopModel" (447 : Nat) ({ cls := "BoyBishopModel", name := "spot", desc := "(II)I" } : Jvm.MethodName)) ∈ gT := gT_in (List.mem_append_right _ (List.mem_append_right _ (List.mem_append_right _ (List.mem_append_right _ (List.mem_append_right _ (List.mem_append_right _ (List.mem_append_right _ (List.mem_append_right _ (List.mem_of_getElem? (i := 32) rfl))))))))) rfl
theorem tw_1713 : (Jvm.Cond.static ({ cls := "BoyBishopModel", name := "spot", desc := "(II)I" } : Jvm.MethodName)) ∈ gT := gT_in (List.mem_append_right _ (List.mem_append_right _ (List.mem_append_right _ (List.mem_append_right _ (List.mem_append_right _ (List.mem_append_right _ (List.mem_append_right _ (List.mem_append_right _ (List.mem_of_getElem? (i := 33) rfl))))))))) rfl
theorem tw_1714 : (Jvm.Cond.code ({ cls := "BoyBishopModel", name := "spot", desc := "(II)I" } : Jvm.MethodName) prog_14_method_113_code (2 : Nat) (Option.some Jvm.ClassFile.FieldType.int)) ∈ gT := gT_in (List.mem_append_right _ (List.mem_append_right _ (List.mem_append_right _ (List.mem_append_right _ (List.mem_append_right _ (List.mem_append_right _ (List.mem_append_right _ (List.mem_append_right _ (List.mem_of_getElem? (i := 34) rfl))))))))) rfl
theorem dX12_alikeAt_0 : decode cX12_alikeAt 0 = .ok (.iconst 0, 1) := by decide +kernel
theorem dX12_alikeAt_1 : decode cX12_alikeAt 1 = .ok (.istore_n 2, 1) := by decide +kernel
theorem dX12_alikeAt_2 : decode cX12_alikeAt 2 = .ok (.iconst 0, 1) := by decide +kernel
theorem dX12_alikeAt_3 : decode cX12_alikeAt 3 = .ok (.istore_n 3, 1) := by decide +kernel
theorem dX12_alikeAt_4 : decode cX12_alikeAt 4 = .ok (.iload_n 3, 1) := by decide +kernel
theorem dX12_alikeAt_5 : decode cX12_alikeAt 5 = .ok (.aload_n 0, 1) := by decide +kernel
theorem dX12_alikeAt_6 : decode cX12_alikeAt 6 = .ok (.getfield 271, 3) := by decide +kernel
theorem dX12_alikeAt_9 : decode cX12_alikeAt 9 = .ok (.if_icmp .gt 96, 3) := by decide +kernel
theorem dX12_alikeAt_12 : decode cX12_alikeAt 12 = .ok (.iconst 0, 1) := by decide +kernel
theorem dX12_alikeAt_13 : decode cX12_alikeAt 13 = .ok (.istore 4, 2) := by decide +kernel
theorem dX12_alikeAt_15 : decode cX12_alikeAt 15 = .ok (.iconst 0, 1) := by decide +kernel
theorem dX12_alikeAt_16 : decode cX12_alikeAt 16 = .ok (.istore 5, 2) := by decide +kernel
theorem dX12_alikeAt_18 : decode cX12_alikeAt 18 = .ok (.iload 5, 2) := by decide +kernel
theorem dX12_alikeAt_20 : decode cX12_alikeAt 20 = .ok (.aload_n 0, 1) := by decide +kernel
theorem dX12_alikeAt_21 : decode cX12_alikeAt 21 = .ok (.getfield 271, 3) := by decide +kernel
theorem dX12_alikeAt_24 : decode cX12_alikeAt 24 = .ok (.if_icmp .gt 62, 3) := by decide +kernel
theorem dX12_alikeAt_27 : decode cX12_alikeAt 27 = .ok (.aload_n 0, 1) := by decide +kernel
theorem dX12_alikeAt_28 : decode cX12_alikeAt 28 = .ok (.getfield 64, 3) := by decide +kernel
theorem dX12_alikeAt_31 : decode cX12_alikeAt 31 = .ok (.iload_n 3, 1) := by decide +kernel
theorem dX12_alikeAt_32 : decode cX12_alikeAt 32 = .ok (.baload, 1) := by decide +kernel
theorem dX12_alikeAt_33 : decode cX12_alikeAt 33 = .ok (.ifCond .eq 53, 3) := by decide +kernel
theorem dX12_alikeAt_36 : decode cX12_alikeAt 36 = .ok (.iload 4, 2) := by decide +kernel
theorem dX12_alikeAt_38 : decode cX12_alikeAt 38 = .ok (.aload_n 0, 1) := by decide +kernel
theorem dX12_alikeAt_39 : decode cX12_alikeAt 39 = .ok (.getfield 64, 3) := by decide +kernel
theorem dX12_alikeAt_42 : decode cX12_alikeAt 42 = .ok (.iload 5, 2) := by decide +kernel
theorem dX12_alikeAt_44 : decode cX12_alikeAt 44 = .ok (.baload, 1) := by decide +kernel
theorem dX12_alikeAt_45 : decode cX12_alikeAt 45 = .ok (.ifCond .eq 31, 3) := by decide +kernel
theorem dX12_alikeAt_48 : decode cX12_alikeAt 48 = .ok (.aload_n 0, 1) := by decide +kernel
theorem dX12_alikeAt_49 : decode cX12_alikeAt 49 = .ok (.getfield 68, 3) := by decide +kernel
theorem dX12_alikeAt_52 : decode cX12_alikeAt 52 = .ok (.iload_n 3, 1) := by decide +kernel
theorem dX12_alikeAt_53 : decode cX12_alikeAt 53 = .ok (.iload_n 1, 1) := by decide +kernel
theorem dX12_alikeAt_54 : decode cX12_alikeAt 54 = .ok (.invokestatic 447, 3) := by decide +kernel
theorem dX12_alikeAt_57 : decode cX12_alikeAt 57 = .ok (.iaload, 1) := by decide +kernel
theorem dX12_alikeAt_58 : decode cX12_alikeAt 58 = .ok (.aload_n 0, 1) := by decide +kernel
theorem dX12_alikeAt_59 : decode cX12_alikeAt 59 = .ok (.getfield 68, 3) := by decide +kernel
theorem dX12_alikeAt_62 : decode cX12_alikeAt 62 = .ok (.iload 5, 2) := by decide +kernel
theorem dX12_alikeAt_64 : decode cX12_alikeAt 64 = .ok (.iload_n 1, 1) := by decide +kernel
theorem dX12_alikeAt_65 : decode cX12_alikeAt 65 = .ok (.invokestatic 447, 3) := by decide +kernel
theorem dX12_alikeAt_68 : decode cX12_alikeAt 68 = .ok (.iaload, 1) := by decide +kernel
theorem dX12_alikeAt_69 : decode cX12_alikeAt 69 = .ok (.if_icmp .ne 7, 3) := by decide +kernel
theorem dX12_alikeAt_72 : decode cX12_alikeAt 72 = .ok (.iconst 1, 1) := by decide +kernel
theorem dX12_alikeAt_73 : decode cX12_alikeAt 73 = .ok (.goto 4, 3) := by decide +kernel
theorem dX12_alikeAt_76 : decode cX12_alikeAt 76 = .ok (.iconst 0, 1) := by decide +kernel
theorem dX12_alikeAt_77 : decode cX12_alikeAt 77 = .ok (.iadd, 1) := by decide +kernel
theorem dX12_alikeAt_78 : decode cX12_alikeAt 78 = .ok (.istore 4, 2) := by decide +kernel
theorem dX12_alikeAt_80 : decode cX12_alikeAt 80 = .ok (.iinc 5 1, 3) := by decide +kernel
theorem dX12_alikeAt_83 : decode cX12_alikeAt 83 = .ok (.goto (-65), 3) := by decide +kernel
theorem dX12_alikeAt_86 : decode cX12_alikeAt 86 = .ok (.iload 4, 2) := by decide +kernel
theorem dX12_alikeAt_88 : decode cX12_alikeAt 88 = .ok (.iload_n 2, 1) := by decide +kernel
theorem dX12_alikeAt_89 : decode cX12_alikeAt 89 = .ok (.if_icmp .le 8, 3) := by decide +kernel
theorem dX12_alikeAt_92 : decode cX12_alikeAt 92 = .ok (.iload 4, 2) := by decide +kernel
theorem dX12_alikeAt_94 : decode cX12_alikeAt 94 = .ok (.goto 4, 3) := by decide +kernel
theorem dX12_alikeAt_97 : decode cX12_alikeAt 97 = .ok (.iload_n 2, 1) := by decide +kernel
theorem dX12_alikeAt_98 : decode cX12_alikeAt 98 = .ok (.istore_n 2, 1) := by decide +kernel
theorem dX12_alikeAt_99 : decode cX12_alikeAt 99 = .ok (.iinc 3 1, 3) := by decide +kernel
theorem dX12_alikeAt_102 : decode cX12_alikeAt 102 = .ok (.goto (-98), 3) := by decide +kernel
theorem dX12_alikeAt_105 : decode cX12_alikeAt 105 = .ok (.iload_n 2, 1) := by decide +kernel
theorem dX12_alikeAt_106 : decode cX12_alikeAt 106 = .ok (.ireturn, 1) := by decide +kernel
theorem dX12_fails_0 : decode cX12_fails 0 = .ok (.aload_n 0, 1) := by decide +kernel
theorem dX12_fails_1 : decode cX12_fails 1 = .ok (.getfield 90, 3) := by decide +kernel
theorem dX12_fails_4 : decode cX12_fails 4 = .ok (.ifCond .ne 15, 3) := by decide +kernel
theorem dX12_fails_7 : decode cX12_fails 7 = .ok (.aload_n 0, 1) := by decide +kernel
theorem dX12_fails_8 : decode cX12_fails 8 = .ok (.iconst 1, 1) := by decide +kernel
theorem dX12_fails_9 : decode cX12_fails 9 = .ok (.bipush 8, 2) := by decide +kernel
theorem dX12_fails_11 : decode cX12_fails 11 = .ok (.iload_n 2, 1) := by decide +kernel
theorem dX12_fails_12 : decode cX12_fails 12 = .ok (.imul, 1) := by decide +kernel
theorem dX12_fails_13 : decode cX12_fails 13 = .ok (.iadd, 1) := by decide +kernel
theorem dX12_fails_14 : decode cX12_fails 14 = .ok (.iload_n 1, 1) := by decide +kernel
theorem dX12_fails_15 : decode cX12_fails 15 = .ok (.iadd, 1) := by decide +kernel
theorem dX12_fails_16 : decode cX12_fails 16 = .ok (.putfield 90, 3) := by decide +kernel
theorem dX12_fails_19 : decode cX12_fails 19 = .ok (.iconst 0, 1) := by decide +kernel
theorem dX12_fails_20 : decode cX12_fails 20 = .ok (.ireturn, 1) := by decide +kernel
theorem dX12_isDigit_0 : decode cX12_isDigit 0 = .ok (.iload_n 1, 1) := by decide +kernel
theorem dX12_isDigit_1 : decode cX12_isDigit 1 = .ok (.aload_n 0, 1) := by decide +kernel
theorem dX12_isDigit_2 : decode cX12_isDigit 2 = .ok (.getfield 83, 3) := by decide +kernel
theorem dX12_isDigit_5 : decode cX12_isDigit 5 = .ok (.if_icmp .ge 29, 3) := by decide +kernel
theorem dX12_isDigit_8 : decode cX12_isDigit 8 = .ok (.aload_n 0, 1) := by decide +kernel
theorem dX12_isDigit_9 : decode cX12_isDigit 9 = .ok (.getfield 7, 3) := by decide +kernel
theorem dX12_isDigit_12 : decode cX12_isDigit 12 = .ok (.iload_n 1, 1) := by decide +kernel
theorem dX12_isDigit_13 : decode cX12_isDigit 13 = .ok (.baload, 1) := by decide +kernel
theorem dX12_isDigit_14 : decode cX12_isDigit 14 = .ok (.bipush 48, 2) := by decide +kernel
theorem dX12_isDigit_16 : decode cX12_isDigit 16 = .ok (.if_icmp .lt 18, 3) := by decide +kernel
theorem dX12_isDigit_19 : decode cX12_isDigit 19 = .ok (.aload_n 0, 1) := by decide +kernel
theorem dX12_isDigit_20 : decode cX12_isDigit 20 = .ok (.getfield 7, 3) := by decide +kernel
theorem dX12_isDigit_23 : decode cX12_isDigit 23 = .ok (.iload_n 1, 1) := by decide +kernel
theorem dX12_isDigit_24 : decode cX12_isDigit 24 = .ok (.baload, 1) := by decide +kernel
theorem dX12_isDigit_25 : decode cX12_isDigit 25 = .ok (.bipush 57, 2) := by decide +kernel
theorem dX12_isDigit_27 : decode cX12_isDigit 27 = .ok (.if_icmp .gt 7, 3) := by decide +kernel
theorem dX12_isDigit_30 : decode cX12_isDigit 30 = .ok (.iconst 1, 1) := by decide +kernel
theorem dX12_isDigit_31 : decode cX12_isDigit 31 = .ok (.goto 4, 3) := by decide +kernel
theorem dX12_isDigit_34 : decode cX12_isDigit 34 = .ok (.iconst 0, 1) := by decide +kernel
theorem dX12_isDigit_35 : decode cX12_isDigit 35 = .ok (.ireturn, 1) := by decide +kernel
theorem dX12_isSnow_0 : decode cX12_isSnow 0 = .ok (.aload_n 0, 1) := by decide +kernel
theorem dX12_isSnow_1 : decode cX12_isSnow 1 = .ok (.getfield 39, 3) := by decide +kernel
theorem dX12_isSnow_4 : decode cX12_isSnow 4 = .ok (.bipush 10, 2) := by decide +kernel
theorem dX12_isSnow_6 : decode cX12_isSnow 6 = .ok (.iaload, 1) := by decide +kernel
theorem dX12_isSnow_7 : decode cX12_isSnow 7 = .ok (.bipush 60, 2) := by decide +kernel
theorem dX12_isSnow_9 : decode cX12_isSnow 9 = .ok (.if_icmp .gt 27, 3) := by decide +kernel
theorem dX12_isSnow_12 : decode cX12_isSnow 12 = .ok (.aload_n 0, 1) := by decide +kernel
theorem dX12_isSnow_13 : decode cX12_isSnow 13 = .ok (.getfield 39, 3) := by decide +kernel
theorem dX12_isSnow_16 : decode cX12_isSnow 16 = .ok (.sipush 224, 3) := by decide +kernel
theorem dX12_isSnow_19 : decode cX12_isSnow 19 = .ok (.aload_n 0, 1) := by decide +kernel
theorem dX12_isSnow_20 : decode cX12_isSnow 20 = .ok (.getfield 39, 3) := by decide +kernel
theorem dX12_isSnow_23 : decode cX12_isSnow 23 = .ok (.bipush 10, 2) := by decide +kernel
theorem dX12_isSnow_25 : decode cX12_isSnow 25 = .ok (.iaload, 1) := by decide +kernel
theorem dX12_isSnow_26 : decode cX12_isSnow 26 = .ok (.iadd, 1) := by decide +kernel
theorem dX12_isSnow_27 : decode cX12_isSnow 27 = .ok (.iaload, 1) := by decide +kernel
theorem dX12_isSnow_28 : decode cX12_isSnow 28 = .ok (.iconst 1, 1) := by decide +kernel
theorem dX12_isSnow_29 : decode cX12_isSnow 29 = .ok (.if_icmp .ne 7, 3) := by decide +kernel
theorem dX12_isSnow_32 : decode cX12_isSnow 32 = .ok (.iconst 1, 1) := by decide +kernel
theorem dX12_isSnow_33 : decode cX12_isSnow 33 = .ok (.goto 4, 3) := by decide +kernel
theorem dX12_isSnow_36 : decode cX12_isSnow 36 = .ok (.iconst 0, 1) := by decide +kernel
theorem dX12_isSnow_37 : decode cX12_isSnow 37 = .ok (.ireturn, 1) := by decide +kernel
theorem dX12_mostVoted_0 : decode cX12_mostVoted 0 = .ok (.iconst (-1), 1) := by decide +kernel
theorem dX12_mostVoted_1 : decode cX12_mostVoted 1 = .ok (.istore_n 1, 1) := by decide +kernel
theorem dX12_mostVoted_2 : decode cX12_mostVoted 2 = .ok (.iconst 0, 1) := by decide +kernel
theorem dX12_mostVoted_3 : decode cX12_mostVoted 3 = .ok (.istore_n 2, 1) := by decide +kernel
theorem dX12_mostVoted_4 : decode cX12_mostVoted 4 = .ok (.iconst 0, 1) := by decide +kernel
theorem dX12_mostVoted_5 : decode cX12_mostVoted 5 = .ok (.istore_n 3, 1) := by decide +kernel
theorem dX12_mostVoted_6 : decode cX12_mostVoted 6 = .ok (.iload_n 3, 1) := by decide +kernel
theorem dX12_mostVoted_7 : decode cX12_mostVoted 7 = .ok (.aload_n 0, 1) := by decide +kernel
theorem dX12_mostVoted_8 : decode cX12_mostVoted 8 = .ok (.getfield 39, 3) := by decide +kernel
theorem dX12_mostVoted_11 : decode cX12_mostVoted 11 = .ok (.iconst 3, 1) := by decide +kernel
theorem dX12_mostVoted_12 : decode cX12_mostVoted 12 = .ok (.iaload, 1) := by decide +kernel
theorem dX12_mostVoted_13 : decode cX12_mostVoted 13 = .ok (.if_icmp .ge 29, 3) := by decide +kernel
theorem dX12_mostVoted_16 : decode cX12_mostVoted 16 = .ok (.aload_n 0, 1) := by decide +kernel
theorem dX12_mostVoted_17 : decode cX12_mostVoted 17 = .ok (.iload_n 3, 1) := by decide +kernel
theorem dX12_mostVoted_18 : decode cX12_mostVoted 18 = .ok (.invokevirtual 346, 3) := by decide +kernel
theorem dX12_mostVoted_21 : decode cX12_mostVoted 21 = .ok (.iload_n 2, 1) := by decide +kernel
theorem dX12_mostVoted_22 : decode cX12_mostVoted 22 = .ok (.if_icmp .gt 6, 3) := by decide +kernel
theorem dX12_mostVoted_25 : decode cX12_mostVoted 25 = .ok (.goto 11, 3) := by decide +kernel
theorem dX12_mostVoted_28 : decode cX12_mostVoted 28 = .ok (.iload_n 3, 1) := by decide +kernel
theorem dX12_mostVoted_29 : decode cX12_mostVoted 29 = .ok (.istore_n 1, 1) := by decide +kernel
theorem dX12_mostVoted_30 : decode cX12_mostVoted 30 = .ok (.aload_n 0, 1) := by decide +kernel
theorem dX12_mostVoted_31 : decode cX12_mostVoted 31 = .ok (.iload_n 3, 1) := by decide +kernel
theorem dX12_mostVoted_32 : decode cX12_mostVoted 32 = .ok (.invokevirtual 346, 3) := by decide +kernel
theorem dX12_mostVoted_35 : decode cX12_mostVoted 35 = .ok (.istore_n 2, 1) := by decide +kernel
theorem dX12_mostVoted_36 : decode cX12_mostVoted 36 = .ok (.iinc 3 1, 3) := by decide +kernel
theorem dX12_mostVoted_39 : decode cX12_mostVoted 39 = .ok (.goto (-33), 3) := by decide +kernel
theorem dX12_mostVoted_42 : decode cX12_mostVoted 42 = .ok (.iload_n 1, 1) := by decide +kernel
theorem dX12_mostVoted_43 : decode cX12_mostVoted 43 = .ok (.ireturn, 1) := by decide +kernel
theorem dX12_one_0 : decode cX12_one 0 = .ok (.iload_n 0, 1) := by decide +kernel
theorem dX12_one_1 : decode cX12_one 1 = .ok (.tableswitch 171 2 14 #[67, 71, 75, 79, 107, 119, 131, 143, 155, 171, 167, 171, 93], 67) := by decide +kernel
theorem dX12_one_68 : decode cX12_one 68 = .ok (.lload_n 1, 1) := by decide +kernel
theorem dX12_one_69 : decode cX12_one 69 = .ok (.lload_n 3, 1) := by decide +kernel
theorem dX12_one_70 : decode cX12_one 70 = .ok (.ladd, 1) := by decide +kernel
theorem dX12_one_71 : decode cX12_one 71 = .ok (.lreturn, 1) := by decide +kernel
theorem dX12_one_72 : decode cX12_one 72 = .ok (.lload_n 1, 1) := by decide +kernel
theorem dX12_one_73 : decode cX12_one 73 = .ok (.lload_n 3, 1) := by decide +kernel
theorem dX12_one_74 : decode cX12_one 74 = .ok (.lsub, 1) := by decide +kernel
theorem dX12_one_75 : decode cX12_one 75 = .ok (.lreturn, 1) := by decide +kernel
theorem dX12_one_76 : decode cX12_one 76 = .ok (.lload_n 1, 1) := by decide +kernel
theorem dX12_one_77 : decode cX12_one 77 = .ok (.lload_n 3, 1) := by decide +kernel
theorem dX12_one_78 : decode cX12_one 78 = .ok (.lmul, 1) := by decide +kernel
theorem dX12_one_79 : decode cX12_one 79 = .ok (.lreturn, 1) := by decide +kernel
theorem dX12_one_80 : decode cX12_one 80 = .ok (.lload_n 3, 1) := by decide +kernel
theorem dX12_one_81 : decode cX12_one 81 = .ok (.lconst 0, 1) := by decide +kernel
theorem dX12_one_82 : decode cX12_one 82 = .ok (.lcmp, 1) := by decide +kernel
theorem dX12_one_83 : decode cX12_one 83 = .ok (.ifCond .ne 7, 3) := by decide +kernel
theorem dX12_one_86 : decode cX12_one 86 = .ok (.lconst 0, 1) := by decide +kernel
theorem dX12_one_87 : decode cX12_one 87 = .ok (.goto 6, 3) := by decide +kernel
theorem dX12_one_90 : decode cX12_one 90 = .ok (.lload_n 1, 1) := by decide +kernel
theorem dX12_one_91 : decode cX12_one 91 = .ok (.lload_n 3, 1) := by decide +kernel
theorem dX12_one_92 : decode cX12_one 92 = .ok (.ldiv, 1) := by decide +kernel
theorem dX12_one_93 : decode cX12_one 93 = .ok (.lreturn, 1) := by decide +kernel
theorem dX12_one_94 : decode cX12_one 94 = .ok (.lload_n 3, 1) := by decide +kernel
theorem dX12_one_95 : decode cX12_one 95 = .ok (.lconst 0, 1) := by decide +kernel
theorem dX12_one_96 : decode cX12_one 96 = .ok (.lcmp, 1) := by decide +kernel
theorem dX12_one_97 : decode cX12_one 97 = .ok (.ifCond .ne 7, 3) := by decide +kernel
theorem dX12_one_100 : decode cX12_one 100 = .ok (.lconst 0, 1) := by decide +kernel
theorem dX12_one_101 : decode cX12_one 101 = .ok (.goto 6, 3) := by decide +kernel
theorem dX12_one_104 : decode cX12_one 104 = .ok (.lload_n 1, 1) := by decide +kernel
theorem dX12_one_105 : decode cX12_one 105 = .ok (.lload_n 3, 1) := by decide +kernel
theorem dX12_one_106 : decode cX12_one 106 = .ok (.lrem, 1) := by decide +kernel
theorem dX12_one_107 : decode cX12_one 107 = .ok (.lreturn, 1) := by decide +kernel
theorem dX12_one_108 : decode cX12_one 108 = .ok (.lload_n 1, 1) := by decide +kernel
theorem dX12_one_109 : decode cX12_one 109 = .ok (.lload_n 3, 1) := by decide +kernel
theorem dX12_one_110 : decode cX12_one 110 = .ok (.lcmp, 1) := by decide +kernel
theorem dX12_one_111 : decode cX12_one 111 = .ok (.ifCond .ge 7, 3) := by decide +kernel
theorem dX12_one_114 : decode cX12_one 114 = .ok (.lconst 1, 1) := by decide +kernel
theorem dX12_one_115 : decode cX12_one 115 = .ok (.goto 4, 3) := by decide +kernel
theorem dX12_one_118 : decode cX12_one 118 = .ok (.lconst 0, 1) := by decide +kernel
theorem dX12_one_119 : decode cX12_one 119 = .ok (.lreturn, 1) := by decide +kernel
theorem dX12_one_120 : decode cX12_one 120 = .ok (.lload_n 1, 1) := by decide +kernel
theorem dX12_one_121 : decode cX12_one 121 = .ok (.lload_n 3, 1) := by decide +kernel
theorem dX12_one_122 : decode cX12_one 122 = .ok (.lcmp, 1) := by decide +kernel
theorem dX12_one_123 : decode cX12_one 123 = .ok (.ifCond .gt 7, 3) := by decide +kernel
theorem dX12_one_126 : decode cX12_one 126 = .ok (.lconst 1, 1) := by decide +kernel
theorem dX12_one_127 : decode cX12_one 127 = .ok (.goto 4, 3) := by decide +kernel
theorem dX12_one_130 : decode cX12_one 130 = .ok (.lconst 0, 1) := by decide +kernel
theorem dX12_one_131 : decode cX12_one 131 = .ok (.lreturn, 1) := by decide +kernel
theorem dX12_one_132 : decode cX12_one 132 = .ok (.lload_n 1, 1) := by decide +kernel
theorem dX12_one_133 : decode cX12_one 133 = .ok (.lload_n 3, 1) := by decide +kernel
theorem dX12_one_134 : decode cX12_one 134 = .ok (.lcmp, 1) := by decide +kernel
theorem dX12_one_135 : decode cX12_one 135 = .ok (.ifCond .ne 7, 3) := by decide +kernel
theorem dX12_one_138 : decode cX12_one 138 = .ok (.lconst 1, 1) := by decide +kernel
theorem dX12_one_139 : decode cX12_one 139 = .ok (.goto 4, 3) := by decide +kernel
theorem dX12_one_142 : decode cX12_one 142 = .ok (.lconst 0, 1) := by decide +kernel
theorem dX12_one_143 : decode cX12_one 143 = .ok (.lreturn, 1) := by decide +kernel
theorem dX12_one_144 : decode cX12_one 144 = .ok (.lload_n 1, 1) := by decide +kernel
theorem dX12_one_145 : decode cX12_one 145 = .ok (.lload_n 3, 1) := by decide +kernel
theorem dX12_one_146 : decode cX12_one 146 = .ok (.lcmp, 1) := by decide +kernel
theorem dX12_one_147 : decode cX12_one 147 = .ok (.ifCond .lt 7, 3) := by decide +kernel
theorem dX12_one_150 : decode cX12_one 150 = .ok (.lconst 1, 1) := by decide +kernel
theorem dX12_one_151 : decode cX12_one 151 = .ok (.goto 4, 3) := by decide +kernel
theorem dX12_one_154 : decode cX12_one 154 = .ok (.lconst 0, 1) := by decide +kernel
theorem dX12_one_155 : decode cX12_one 155 = .ok (.lreturn, 1) := by decide +kernel
theorem dX12_one_156 : decode cX12_one 156 = .ok (.lload_n 1, 1) := by decide +kernel
theorem dX12_one_157 : decode cX12_one 157 = .ok (.lload_n 3, 1) := by decide +kernel
theorem dX12_one_158 : decode cX12_one 158 = .ok (.lcmp, 1) := by decide +kernel
theorem dX12_one_159 : decode cX12_one 159 = .ok (.ifCond .le 7, 3) := by decide +kernel
theorem dX12_one_162 : decode cX12_one 162 = .ok (.lconst 1, 1) := by decide +kernel
theorem dX12_one_163 : decode cX12_one 163 = .ok (.goto 4, 3) := by decide +kernel
theorem dX12_one_166 : decode cX12_one 166 = .ok (.lconst 0, 1) := by decide +kernel
theorem dX12_one_167 : decode cX12_one 167 = .ok (.lreturn, 1) := by decide +kernel
theorem dX12_one_168 : decode cX12_one 168 = .ok (.lload_n 1, 1) := by decide +kernel
theorem dX12_one_169 : decode cX12_one 169 = .ok (.lload_n 3, 1) := by decide +kernel
theorem dX12_one_170 : decode cX12_one 170 = .ok (.land, 1) := by decide +kernel
theorem dX12_one_171 : decode cX12_one 171 = .ok (.lreturn, 1) := by decide +kernel
theorem dX12_one_172 : decode cX12_one 172 = .ok (.lload_n 1, 1) := by decide +kernel
theorem dX12_one_173 : decode cX12_one 173 = .ok (.lload_n 3, 1) := by decide +kernel
theorem dX12_one_174 : decode cX12_one 174 = .ok (.lor, 1) := by decide +kernel
theorem dX12_one_175 : decode cX12_one 175 = .ok (.lreturn, 1) := by decide +kernel
theorem dX12_see_0 : decode cX12_see 0 = .ok (.aload_n 0, 1) := by decide +kernel
theorem dX12_see_1 : decode cX12_see 1 = .ok (.getfield 93, 3) := by decide +kernel
theorem dX12_see_4 : decode cX12_see 4 = .ok (.aload_n 0, 1) := by decide +kernel
theorem dX12_see_5 : decode cX12_see 5 = .ok (.getfield 83, 3) := by decide +kernel
theorem dX12_see_8 : decode cX12_see 8 = .ok (.if_icmp .ge 30, 3) := by decide +kernel
theorem dX12_see_11 : decode cX12_see 11 = .ok (.aload_n 0, 1) := by decide +kernel
theorem dX12_see_12 : decode cX12_see 12 = .ok (.getfield 7, 3) := by decide +kernel
theorem dX12_see_15 : decode cX12_see 15 = .ok (.aload_n 0, 1) := by decide +kernel
theorem dX12_see_16 : decode cX12_see 16 = .ok (.getfield 93, 3) := by decide +kernel
theorem dX12_see_19 : decode cX12_see 19 = .ok (.baload, 1) := by decide +kernel
theorem dX12_see_20 : decode cX12_see 20 = .ok (.bipush 32, 2) := by decide +kernel
theorem dX12_see_22 : decode cX12_see 22 = .ok (.if_icmp .ne 16, 3) := by decide +kernel
theorem dX12_see_25 : decode cX12_see 25 = .ok (.aload_n 0, 1) := by decide +kernel
theorem dX12_see_26 : decode cX12_see 26 = .ok (.dup, 1) := by decide +kernel
theorem dX12_see_27 : decode cX12_see 27 = .ok (.getfield 93, 3) := by decide +kernel
theorem dX12_see_30 : decode cX12_see 30 = .ok (.iconst 1, 1) := by decide +kernel
theorem dX12_see_31 : decode cX12_see 31 = .ok (.iadd, 1) := by decide +kernel
theorem dX12_see_32 : decode cX12_see 32 = .ok (.putfield 93, 3) := by decide +kernel
theorem dX12_see_35 : decode cX12_see 35 = .ok (.goto (-35), 3) := by decide +kernel
theorem dX12_see_38 : decode cX12_see 38 = .ok (.aload_n 0, 1) := by decide +kernel
theorem dX12_see_39 : decode cX12_see 39 = .ok (.getfield 93, 3) := by decide +kernel
theorem dX12_see_42 : decode cX12_see 42 = .ok (.aload_n 0, 1) := by decide +kernel
theorem dX12_see_43 : decode cX12_see 43 = .ok (.getfield 83, 3) := by decide +kernel
theorem dX12_see_46 : decode cX12_see 46 = .ok (.if_icmp .ge 19, 3) := by decide +kernel
theorem dX12_see_49 : decode cX12_see 49 = .ok (.aload_n 0, 1) := by decide +kernel
theorem dX12_see_50 : decode cX12_see 50 = .ok (.getfield 7, 3) := by decide +kernel
theorem dX12_see_53 : decode cX12_see 53 = .ok (.aload_n 0, 1) := by decide +kernel
theorem dX12_see_54 : decode cX12_see 54 = .ok (.getfield 93, 3) := by decide +kernel
theorem dX12_see_57 : decode cX12_see 57 = .ok (.baload, 1) := by decide +kernel
theorem dX12_see_58 : decode cX12_see 58 = .ok (.sipush 255, 3) := by decide +kernel
theorem dX12_see_61 : decode cX12_see 61 = .ok (.iand, 1) := by decide +kernel
theorem dX12_see_62 : decode cX12_see 62 = .ok (.goto 4, 3) := by decide +kernel
theorem dX12_see_65 : decode cX12_see 65 = .ok (.iconst (-1), 1) := by decide +kernel
theorem dX12_see_66 : decode cX12_see 66 = .ok (.ireturn, 1) := by decide +kernel
theorem dX12_spot_0 : decode cX12_spot 0 = .ok (.bipush 61, 2) := by decide +kernel
theorem dX12_spot_2 : decode cX12_spot 2 = .ok (.iload_n 0, 1) := by decide +kernel
theorem dX12_spot_3 : decode cX12_spot 3 = .ok (.imul, 1) := by decide +kernel
theorem dX12_spot_4 : decode cX12_spot 4 = .ok (.iload_n 1, 1) := by decide +kernel
theorem dX12_spot_5 : decode cX12_spot 5 = .ok (.iadd, 1) := by decide +kernel
theorem dX12_spot_6 : decode cX12_spot 6 = .ok (.ireturn, 1) := by decide +kernel
theorem dX12_votesOf_0 : decode cX12_votesOf 0 = .ok (.iconst 0, 1) := by decide +kernel
theorem dX12_votesOf_1 : decode cX12_votesOf 1 = .ok (.istore_n 2, 1) := by decide +kernel
theorem dX12_votesOf_2 : decode cX12_votesOf 2 = .ok (.iconst 0, 1) := by decide +kernel
theorem dX12_votesOf_3 : decode cX12_votesOf 3 = .ok (.istore_n 3, 1) := by decide +kernel
theorem dX12_votesOf_4 : decode cX12_votesOf 4 = .ok (.iload_n 3, 1) := by decide +kernel
theorem dX12_votesOf_5 : decode cX12_votesOf 5 = .ok (.aload_n 0, 1) := by decide +kernel
theorem dX12_votesOf_6 : decode cX12_votesOf 6 = .ok (.getfield 39, 3) := by decide +kernel
theorem dX12_votesOf_9 : decode cX12_votesOf 9 = .ok (.iconst 3, 1) := by decide +kernel
theorem dX12_votesOf_10 : decode cX12_votesOf 10 = .ok (.iaload, 1) := by decide +kernel
theorem dX12_votesOf_11 : decode cX12_votesOf 11 = .ok (.if_icmp .ge 27, 3) := by decide +kernel
theorem dX12_votesOf_14 : decode cX12_votesOf 14 = .ok (.iload_n 2, 1) := by decide +kernel
theorem dX12_votesOf_15 : decode cX12_votesOf 15 = .ok (.aload_n 0, 1) := by decide +kernel
theorem dX12_votesOf_16 : decode cX12_votesOf 16 = .ok (.getfield 46, 3) := by decide +kernel
theorem dX12_votesOf_19 : decode cX12_votesOf 19 = .ok (.iload_n 3, 1) := by decide +kernel
theorem dX12_votesOf_20 : decode cX12_votesOf 20 = .ok (.iaload, 1) := by decide +kernel
theorem dX12_votesOf_21 : decode cX12_votesOf 21 = .ok (.iload_n 1, 1) := by decide +kernel
theorem dX12_votesOf_22 : decode cX12_votesOf 22 = .ok (.if_icmp .ne 7, 3) := by decide +kernel
theorem dX12_votesOf_25 : decode cX12_votesOf 25 = .ok (.iconst 1, 1) := by decide +kernel
theorem dX12_votesOf_26 : decode cX12_votesOf 26 = .ok (.goto 4, 3) := by decide +kernel
theorem dX12_votesOf_29 : decode cX12_votesOf 29 = .ok (.iconst 0, 1) := by decide +kernel
theorem dX12_votesOf_30 : decode cX12_votesOf 30 = .ok (.iadd, 1) := by decide +kernel
theorem dX12_votesOf_31 : decode cX12_votesOf 31 = .ok (.istore_n 2, 1) := by decide +kernel
theorem dX12_votesOf_32 : decode cX12_votesOf 32 = .ok (.iinc 3 1, 3) := by decide +kernel
theorem dX12_votesOf_35 : decode cX12_votesOf 35 = .ok (.goto (-31), 3) := by decide +kernel
theorem dX12_votesOf_38 : decode cX12_votesOf 38 = .ok (.iload_n 2, 1) := by decide +kernel
theorem dX12_votesOf_39 : decode cX12_votesOf 39 = .ok (.ireturn, 1) := by decide +kernel
theorem li_224 : (224 : Int32).toInt = 224 := by decide
theorem li_255 : (255 : Int32).toInt = 255 := by decide
theorem iv_63_10 {B : Nat} : aiv B 63 (10 : Int32).toInt.toNat = (0, 1999) := by rw [show (10 : Int32).toInt.toNat = 10 by decide]; rfl
set_option maxHeartbeats 4000000 in
set_option maxRecDepth 100000 in
theorem t_X12_one (l : Launch) (dC : Nat → ClassId) (dI : Nat → Nat → Nat) (tys : List (ClassId × FieldType)) (κ : tK) (B : Nat) (ws : va_W) (hT : Ty κ tys B ws) (a0 : Int32) (l_a0 : 2 ≤ a0.toInt) (h_a0 : a0.toInt ≤ 15) (a1 : Int64) (a2 : Int64) (sz : Nat) : Met l yX12_one (ws_u yX12_one cX12_one 5 (some .long)) ({ frames := 0, cells := 0, slots := 0, locals := 0 }) (va_Pc [.int a0, .long a1, .long a2] (cPre (dC, dI) tys ws sz)) (va_Ql (fun (r : Int64) (w : va_W) => Ty κ tys B w ∧ Sm [] [] κ ws w) (fun w t => cPost (dC, dI) tys w (va_A ws sz) t) (va_A ws sz)) 0 0 (va_A ws sz) := by
  refine Met.ofW (cc := cX12_one) (maxL := 5) (ret := (some .long)) (by decide) rfl ?_
  intro p e s m args below meth c s₁ B0 hml hv
  obtain ⟨rfl, hsz, hP, hK, hD0, hE⟩ := hv
  have hx := B0.exec
  have hb := B0.bytes
  have hr := B0.returns
  have hts0 := atoms_spec (ws := ws_u yX12_one cX12_one 5 (some .long)) B0.pre
  have hts : ∀ w ∈ gT, w.before _ s = true := fun w h => hts0 w (List.mem_cons_of_mem _ h)
  have hown : s.vm.findClass RX12 = some m.cls := findClass_of_methodNamed B0.named
  have hlocks := B0.notSynchronized
  subst hsz
  have hD := hD0.self (sz := s.heap.size)
  generalize hAe : va_A ws s.heap.size = A at hD ⊢
  have hA : ∀ q : Nat, s.heap.size ≤ q → A q := fun q h => by rw [← hAe]; exact Or.inr h
  have hw : tW (dC, dI) tys κ B A s ws s.heap [] := ⟨hK, hP, hD, va_S.rf, hT⟩
  have hM : Sm [] [] κ ws ws := Sm.rf
  clear hP hK hD hD0 hts0
  have hl := lv_entry ([.int a0, .long a1, .long a2]) (n := 5) (Nat.le_of_ble_eq_true rfl)
  rw [lg_entry_eq]
  generalize (lg_sl ([.int a0, .long a1, .long a2]) ++ List.replicate (5 - (lg_sl ([.int a0, .long a1, .long a2])).length) Slot.unset).toArray = ls at hl ⊢
  have hl : lv_has ls 5 [(0, .int a0), (1, .long a1), (3, .long a2)] := hl
  refine t_start (fun QQ hQ => ?_)
  refine lv_iload_n hx hb dX12_one_0 rfl (lv_at hl 0 rfl) ?_
  rcases Classical.em (a0.toInt = 2) with c_1_0 | c_1_0
  · refine lv_tableIn (tgt := 68) hx hb dX12_one_1 (by omega) (by omega) (by rw [c_1_0]; rfl) (by decide) ?_
    refine lv_lload_n hx hb dX12_one_68 rfl (lv_at hl 1 rfl) ?_
    refine lv_lload_n hx hb dX12_one_69 rfl (lv_at hl 2 rfl) ?_
    refine lv_ladd hx hb dX12_one_70 ?_
    refine lv_topl (fun v70 e_v70 => ?_)
    rw [hQ]
    refine W.widen (k := 0) (n := 0) (Nat.le_refl _) (Nat.le_refl _) ?_
    exact W.lret (v := v70) hx hb hr (fun t ht hW => ⟨⟨v70, ws, rfl, ⟨hw.2.2.2.2, hM⟩, by rw [ht]; exact hw.2.1, va_K.moved hW.alike hw.1, hw.2.2.1⟩, hw.2.2.2.1.F ht⟩) hw.2.2.2.1.2.2 dX12_one_71
  rcases Classical.em (a0.toInt = 3) with c_1_1 | c_1_1
  · refine lv_tableIn (tgt := 72) hx hb dX12_one_1 (by omega) (by omega) (by rw [c_1_1]; rfl) (by decide) ?_
    refine lv_lload_n hx hb dX12_one_72 rfl (lv_at hl 1 rfl) ?_
    refine lv_lload_n hx hb dX12_one_73 rfl (lv_at hl 2 rfl) ?_
    refine lv_lsub hx hb dX12_one_74 ?_
    refine lv_topl (fun v74 e_v74 => ?_)
    rw [hQ]
    refine W.widen (k := 0) (n := 0) (Nat.le_refl _) (Nat.le_refl _) ?_
    exact W.lret (v := v74) hx hb hr (fun t ht hW => ⟨⟨v74, ws, rfl, ⟨hw.2.2.2.2, hM⟩, by rw [ht]; exact hw.2.1, va_K.moved hW.alike hw.1, hw.2.2.1⟩, hw.2.2.2.1.F ht⟩) hw.2.2.2.1.2.2 dX12_one_75
  rcases Classical.em (a0.toInt = 4) with c_1_2 | c_1_2
  · refine lv_tableIn (tgt := 76) hx hb dX12_one_1 (by omega) (by omega) (by rw [c_1_2]; rfl) (by decide) ?_
    refine lv_lload_n hx hb dX12_one_76 rfl (lv_at hl 1 rfl) ?_
    refine lv_lload_n hx hb dX12_one_77 rfl (lv_at hl 2 rfl) ?_
    refine lv_lmul hx hb dX12_one_78 ?_
    refine lv_topl (fun v78 e_v78 => ?_)
    rw [hQ]
    refine W.widen (k := 0) (n := 0) (Nat.le_refl _) (Nat.le_refl _) ?_
    exact W.lret (v := v78) hx hb hr (fun t ht hW => ⟨⟨v78, ws, rfl, ⟨hw.2.2.2.2, hM⟩, by rw [ht]; exact hw.2.1, va_K.moved hW.alike hw.1, hw.2.2.1⟩, hw.2.2.2.1.F ht⟩) hw.2.2.2.1.2.2 dX12_one_79
  rcases Classical.em (a0.toInt = 5) with c_1_3 | c_1_3
  · refine lv_tableIn (tgt := 80) hx hb dX12_one_1 (by omega) (by omega) (by rw [c_1_3]; rfl) (by decide) ?_
    refine lv_lload_n hx hb dX12_one_80 rfl (lv_at hl 2 rfl) ?_
    refine lv_lconst (v := 0) hx hb dX12_one_81 (by decide) ?_
    obtain ⟨v81, e_v81⟩ : ∃ y : Int64, y = 0 := ⟨_, rfl⟩
    refine W.eq (g2 := F0 m 82 ls [.long v81, .long a2]) (by rw [e_v81]) ?_
    have t_v81 : v81.toInt = 0 := by rw [e_v81]; decide
    refine W.lcmp hx hb dX12_one_82 ?_
    refine lv_topi (fun v82 e_v82 => ?_)
    have l_v82 := i32_lo v82
    have h_v82 := i32_hi v82
    have g_v82 := lgc e_v82
    refine lv_if_ne (tgt := 90) hx hb dX12_one_83 (by decide) (fun c_83 => ?_) (fun c_83 => ?_)
    · simp only [fa_lt, fa_le, fa_eq, li_0] at c_83
      refine lv_lload_n hx hb dX12_one_90 rfl (lv_at hl 1 rfl) ?_
      refine lv_lload_n hx hb dX12_one_91 rfl (lv_at hl 2 rfl) ?_
      refine lv_ldiv hx hb dX12_one_92 (fun h9 => c_83 (by rw [e_v82, h9, e_v81]; decide)) ?_
      refine lv_topl (fun v92 e_v92 => ?_)
      rw [hQ]
      refine W.widen (k := 0) (n := 0) (Nat.le_refl _) (Nat.le_refl _) ?_
      exact W.lret (v := v92) hx hb hr (fun t ht hW => ⟨⟨v92, ws, rfl, ⟨hw.2.2.2.2, hM⟩, by rw [ht]; exact hw.2.1, va_K.moved hW.alike hw.1, hw.2.2.1⟩, hw.2.2.2.1.F ht⟩) hw.2.2.2.1.2.2 dX12_one_93
    · simp only [fa_lt, fa_le, fa_eq, li_0] at c_83
      refine lv_lconst (v := 0) hx hb dX12_one_86 (by decide) ?_
      obtain ⟨v86, e_v86⟩ : ∃ y : Int64, y = 0 := ⟨_, rfl⟩
      refine W.eq (g2 := F0 m 87 ls [.long v86]) (by rw [e_v86]) ?_
      have t_v86 : v86.toInt = 0 := by rw [e_v86]; decide
      refine lv_goto (tgt := 93) hx hb dX12_one_87 (by decide) ?_
      rw [hQ]
      refine W.widen (k := 0) (n := 0) (Nat.le_refl _) (Nat.le_refl _) ?_
      exact W.lret (v := v86) hx hb hr (fun t ht hW => ⟨⟨v86, ws, rfl, ⟨hw.2.2.2.2, hM⟩, by rw [ht]; exact hw.2.1, va_K.moved hW.alike hw.1, hw.2.2.1⟩, hw.2.2.2.1.F ht⟩) hw.2.2.2.1.2.2 dX12_one_93
  rcases Classical.em (a0.toInt = 6) with c_1_4 | c_1_4
  · refine lv_tableIn (tgt := 108) hx hb dX12_one_1 (by omega) (by omega) (by rw [c_1_4]; rfl) (by decide) ?_
    refine lv_lload_n hx hb dX12_one_108 rfl (lv_at hl 1 rfl) ?_
    refine lv_lload_n hx hb dX12_one_109 rfl (lv_at hl 2 rfl) ?_
    refine W.lcmp hx hb dX12_one_110 ?_
    refine lv_topi (fun v110 e_v110 => ?_)
    have l_v110 := i32_lo v110
    have h_v110 := i32_hi v110
    have g_v110 := lgc e_v110
    refine lv_if_ge (tgt := 118) hx hb dX12_one_111 (by decide) (fun c_111 => ?_) (fun c_111 => ?_)
    · simp only [fa_lt, fa_le, fa_eq, li_0] at c_111
      refine lv_lconst (v := 0) hx hb dX12_one_118 (by decide) ?_
      obtain ⟨v118, e_v118⟩ : ∃ y : Int64, y = 0 := ⟨_, rfl⟩
      refine W.eq (g2 := F0 m 119 ls [.long v118]) (by rw [e_v118]) ?_
      have t_v118 : v118.toInt = 0 := by rw [e_v118]; decide
      rw [hQ]
      refine W.widen (k := 0) (n := 0) (Nat.le_refl _) (Nat.le_refl _) ?_
      exact W.lret (v := v118) hx hb hr (fun t ht hW => ⟨⟨v118, ws, rfl, ⟨hw.2.2.2.2, hM⟩, by rw [ht]; exact hw.2.1, va_K.moved hW.alike hw.1, hw.2.2.1⟩, hw.2.2.2.1.F ht⟩) hw.2.2.2.1.2.2 dX12_one_119
    · simp only [fa_lt, fa_le, fa_eq, li_0] at c_111
      refine lv_lconst (v := 1) hx hb dX12_one_114 (by decide) ?_
      obtain ⟨v114, e_v114⟩ : ∃ y : Int64, y = 1 := ⟨_, rfl⟩
      refine W.eq (g2 := F0 m 115 ls [.long v114]) (by rw [e_v114]) ?_
      have t_v114 : v114.toInt = 1 := by rw [e_v114]; decide
      refine lv_goto (tgt := 119) hx hb dX12_one_115 (by decide) ?_
      rw [hQ]
      refine W.widen (k := 0) (n := 0) (Nat.le_refl _) (Nat.le_refl _) ?_
      exact W.lret (v := v114) hx hb hr (fun t ht hW => ⟨⟨v114, ws, rfl, ⟨hw.2.2.2.2, hM⟩, by rw [ht]; exact hw.2.1, va_K.moved hW.alike hw.1, hw.2.2.1⟩, hw.2.2.2.1.F ht⟩) hw.2.2.2.1.2.2 dX12_one_119
  rcases Classical.em (a0.toInt = 7) with c_1_5 | c_1_5
  · refine lv_tableIn (tgt := 120) hx hb dX12_one_1 (by omega) (by omega) (by rw [c_1_5]; rfl) (by decide) ?_
    refine lv_lload_n hx hb dX12_one_120 rfl (lv_at hl 1 rfl) ?_
    refine lv_lload_n hx hb dX12_one_121 rfl (lv_at hl 2 rfl) ?_
    refine W.lcmp hx hb dX12_one_122 ?_
    refine lv_topi (fun v122 e_v122 => ?_)
    have l_v122 := i32_lo v122
    have h_v122 := i32_hi v122
    have g_v122 := lgc e_v122
    refine lv_if_gt (tgt := 130) hx hb dX12_one_123 (by decide) (fun c_123 => ?_) (fun c_123 => ?_)
    · simp only [fa_lt, fa_le, fa_eq, li_0] at c_123
      refine lv_lconst (v := 0) hx hb dX12_one_130 (by decide) ?_
      obtain ⟨v130, e_v130⟩ : ∃ y : Int64, y = 0 := ⟨_, rfl⟩
      refine W.eq (g2 := F0 m 131 ls [.long v130]) (by rw [e_v130]) ?_
      have t_v130 : v130.toInt = 0 := by rw [e_v130]; decide
      rw [hQ]
      refine W.widen (k := 0) (n := 0) (Nat.le_refl _) (Nat.le_refl _) ?_
      exact W.lret (v := v130) hx hb hr (fun t ht hW => ⟨⟨v130, ws, rfl, ⟨hw.2.2.2.2, hM⟩, by rw [ht]; exact hw.2.1, va_K.moved hW.alike hw.1, hw.2.2.1⟩, hw.2.2.2.1.F ht⟩) hw.2.2.2.1.2.2 dX12_one_131
    · simp only [fa_lt, fa_le, fa_eq, li_0] at c_123
      refine lv_lconst (v := 1) hx hb dX12_one_126 (by decide) ?_
      obtain ⟨v126, e_v126⟩ : ∃ y : Int64, y = 1 := ⟨_, rfl⟩
      refine W.eq (g2 := F0 m 127 ls [.long v126]) (by rw [e_v126]) ?_
      have t_v126 : v126.toInt = 1 := by rw [e_v126]; decide
      refine lv_goto (tgt := 131) hx hb dX12_one_127 (by decide) ?_
      rw [hQ]
      refine W.widen (k := 0) (n := 0) (Nat.le_refl _) (Nat.le_refl _) ?_
      exact W.lret (v := v126) hx hb hr (fun t ht hW => ⟨⟨v126, ws, rfl, ⟨hw.2.2.2.2, hM⟩, by rw [ht]; exact hw.2.1, va_K.moved hW.alike hw.1, hw.2.2.1⟩, hw.2.2.2.1.F ht⟩) hw.2.2.2.1.2.2 dX12_one_131
  rcases Classical.em (a0.toInt = 8) with c_1_6 | c_1_6
  · refine lv_tableIn (tgt := 132) hx hb dX12_one_1 (by omega) (by omega) (by rw [c_1_6]; rfl) (by decide) ?_
    refine lv_lload_n hx hb dX12_one_132 rfl (lv_at hl 1 rfl) ?_
    refine lv_lload_n hx hb dX12_one_133 rfl (lv_at hl 2 rfl) ?_
    refine W.lcmp hx hb dX12_one_134 ?_
    refine lv_topi (fun v134 e_v134 => ?_)
    have l_v134 := i32_lo v134
    have h_v134 := i32_hi v134
    have g_v134 := lgc e_v134
    refine lv_if_ne (tgt := 142) hx hb dX12_one_135 (by decide) (fun c_135 => ?_) (fun c_135 => ?_)
    · simp only [fa_lt, fa_le, fa_eq, li_0] at c_135
      refine lv_lconst (v := 0) hx hb dX12_one_142 (by decide) ?_
      obtain ⟨v142, e_v142⟩ : ∃ y : Int64, y = 0 := ⟨_, rfl⟩
      refine W.eq (g2 := F0 m 143 ls [.long v142]) (by rw [e_v142]) ?_
      have t_v142 : v142.toInt = 0 := by rw [e_v142]; decide
      rw [hQ]
      refine W.widen (k := 0) (n := 0) (Nat.le_refl _) (Nat.le_refl _) ?_
      exact W.lret (v := v142) hx hb hr (fun t ht hW => ⟨⟨v142, ws, rfl, ⟨hw.2.2.2.2, hM⟩, by rw [ht]; exact hw.2.1, va_K.moved hW.alike hw.1, hw.2.2.1⟩, hw.2.2.2.1.F ht⟩) hw.2.2.2.1.2.2 dX12_one_143
    · simp only [fa_lt, fa_le, fa_eq, li_0] at c_135
      refine lv_lconst (v := 1) hx hb dX12_one_138 (by decide) ?_
      obtain ⟨v138, e_v138⟩ : ∃ y : Int64, y = 1 := ⟨_, rfl⟩
      refine W.eq (g2 := F0 m 139 ls [.long v138]) (by rw [e_v138]) ?_
      have t_v138 : v138.toInt = 1 := by rw [e_v138]; decide
      refine lv_goto (tgt := 143) hx hb dX12_one_139 (by decide) ?_
      rw [hQ]
      refine W.widen (k := 0) (n := 0) (Nat.le_refl _) (Nat.le_refl _) ?_
      exact W.lret (v := v138) hx hb hr (fun t ht hW => ⟨⟨v138, ws, rfl, ⟨hw.2.2.2.2, hM⟩, by rw [ht]; exact hw.2.1, va_K.moved hW.alike hw.1, hw.2.2.1⟩, hw.2.2.2.1.F ht⟩) hw.2.2.2.1.2.2 dX12_one_143
  rcases Classical.em (a0.toInt = 9) with c_1_7 | c_1_7
  · refine lv_tableIn (tgt := 144) hx hb dX12_one_1 (by omega) (by omega) (by rw [c_1_7]; rfl) (by decide) ?_
    refine lv_lload_n hx hb dX12_one_144 rfl (lv_at hl 1 rfl) ?_
    refine lv_lload_n hx hb dX12_one_145 rfl (lv_at hl 2 rfl) ?_
    refine W.lcmp hx hb dX12_one_146 ?_
    refine lv_topi (fun v146 e_v146 => ?_)
    have l_v146 := i32_lo v146
    have h_v146 := i32_hi v146
    have g_v146 := lgc e_v146
    refine lv_if_lt (tgt := 154) hx hb dX12_one_147 (by decide) (fun c_147 => ?_) (fun c_147 => ?_)
    · simp only [fa_lt, fa_le, fa_eq, li_0] at c_147
      refine lv_lconst (v := 0) hx hb dX12_one_154 (by decide) ?_
      obtain ⟨v154, e_v154⟩ : ∃ y : Int64, y = 0 := ⟨_, rfl⟩
      refine W.eq (g2 := F0 m 155 ls [.long v154]) (by rw [e_v154]) ?_
      have t_v154 : v154.toInt = 0 := by rw [e_v154]; decide
      rw [hQ]
      refine W.widen (k := 0) (n := 0) (Nat.le_refl _) (Nat.le_refl _) ?_
      exact W.lret (v := v154) hx hb hr (fun t ht hW => ⟨⟨v154, ws, rfl, ⟨hw.2.2.2.2, hM⟩, by rw [ht]; exact hw.2.1, va_K.moved hW.alike hw.1, hw.2.2.1⟩, hw.2.2.2.1.F ht⟩) hw.2.2.2.1.2.2 dX12_one_155
    · simp only [fa_lt, fa_le, fa_eq, li_0] at c_147
      refine lv_lconst (v := 1) hx hb dX12_one_150 (by decide) ?_
      obtain ⟨v150, e_v150⟩ : ∃ y : Int64, y = 1 := ⟨_, rfl⟩
      refine W.eq (g2 := F0 m 151 ls [.long v150]) (by rw [e_v150]) ?_
      have t_v150 : v150.toInt = 1 := by rw [e_v150]; decide
      refine lv_goto (tgt := 155) hx hb dX12_one_151 (by decide) ?_
      rw [hQ]
      refine W.widen (k := 0) (n := 0) (Nat.le_refl _) (Nat.le_refl _) ?_
      exact W.lret (v := v150) hx hb hr (fun t ht hW => ⟨⟨v150, ws, rfl, ⟨hw.2.2.2.2, hM⟩, by rw [ht]; exact hw.2.1, va_K.moved hW.alike hw.1, hw.2.2.1⟩, hw.2.2.2.1.F ht⟩) hw.2.2.2.1.2.2 dX12_one_155
  rcases Classical.em (a0.toInt = 10) with c_1_8 | c_1_8
  · refine lv_tableIn (tgt := 156) hx hb dX12_one_1 (by omega) (by omega) (by rw [c_1_8]; rfl) (by decide) ?_
    refine lv_lload_n hx hb dX12_one_156 rfl (lv_at hl 1 rfl) ?_
    refine lv_lload_n hx hb dX12_one_157 rfl (lv_at hl 2 rfl) ?_
    refine W.lcmp hx hb dX12_one_158 ?_
    refine lv_topi (fun v158 e_v158 => ?_)
    have l_v158 := i32_lo v158
    have h_v158 := i32_hi v158
    have g_v158 := lgc e_v158
    refine lv_if_le (tgt := 166) hx hb dX12_one_159 (by decide) (fun c_159 => ?_) (fun c_159 => ?_)
    · simp only [fa_lt, fa_le, fa_eq, li_0] at c_159
      refine lv_lconst (v := 0) hx hb dX12_one_166 (by decide) ?_
      obtain ⟨v166, e_v166⟩ : ∃ y : Int64, y = 0 := ⟨_, rfl⟩
      refine W.eq (g2 := F0 m 167 ls [.long v166]) (by rw [e_v166]) ?_
      have t_v166 : v166.toInt = 0 := by rw [e_v166]; decide
      rw [hQ]
      refine W.widen (k := 0) (n := 0) (Nat.le_refl _) (Nat.le_refl _) ?_
      exact W.lret (v := v166) hx hb hr (fun t ht hW => ⟨⟨v166, ws, rfl, ⟨hw.2.2.2.2, hM⟩, by rw [ht]; exact hw.2.1, va_K.moved hW.alike hw.1, hw.2.2.1⟩, hw.2.2.2.1.F ht⟩) hw.2.2.2.1.2.2 dX12_one_167
    · simp only [fa_lt, fa_le, fa_eq, li_0] at c_159
      refine lv_lconst (v := 1) hx hb dX12_one_162 (by decide) ?_
      obtain ⟨v162, e_v162⟩ : ∃ y : Int64, y = 1 := ⟨_, rfl⟩
      refine W.eq (g2 := F0 m 163 ls [.long v162]) (by rw [e_v162]) ?_
      have t_v162 : v162.toInt = 1 := by rw [e_v162]; decide
      refine lv_goto (tgt := 167) hx hb dX12_one_163 (by decide) ?_
      rw [hQ]
      refine W.widen (k := 0) (n := 0) (Nat.le_refl _) (Nat.le_refl _) ?_
      exact W.lret (v := v162) hx hb hr (fun t ht hW => ⟨⟨v162, ws, rfl, ⟨hw.2.2.2.2, hM⟩, by rw [ht]; exact hw.2.1, va_K.moved hW.alike hw.1, hw.2.2.1⟩, hw.2.2.2.1.F ht⟩) hw.2.2.2.1.2.2 dX12_one_167
  rcases Classical.em (a0.toInt = 11) with c_1_9 | c_1_9
  · refine lv_tableIn (tgt := 172) hx hb dX12_one_1 (by omega) (by omega) (by rw [c_1_9]; rfl) (by decide) ?_
    refine lv_lload_n hx hb dX12_one_172 rfl (lv_at hl 1 rfl) ?_
    refine lv_lload_n hx hb dX12_one_173 rfl (lv_at hl 2 rfl) ?_
    refine lv_lor hx hb dX12_one_174 ?_
    refine lv_topl (fun v174 e_v174 => ?_)
    rw [hQ]
    refine W.widen (k := 0) (n := 0) (Nat.le_refl _) (Nat.le_refl _) ?_
    exact W.lret (v := v174) hx hb hr (fun t ht hW => ⟨⟨v174, ws, rfl, ⟨hw.2.2.2.2, hM⟩, by rw [ht]; exact hw.2.1, va_K.moved hW.alike hw.1, hw.2.2.1⟩, hw.2.2.2.1.F ht⟩) hw.2.2.2.1.2.2 dX12_one_175
  rcases Classical.em (a0.toInt = 12) with c_1_10 | c_1_10
  · refine lv_tableIn (tgt := 168) hx hb dX12_one_1 (by omega) (by omega) (by rw [c_1_10]; rfl) (by decide) ?_
    refine lv_lload_n hx hb dX12_one_168 rfl (lv_at hl 1 rfl) ?_
    refine lv_lload_n hx hb dX12_one_169 rfl (lv_at hl 2 rfl) ?_
    refine lv_land hx hb dX12_one_170 ?_
    refine lv_topl (fun v170 e_v170 => ?_)
    rw [hQ]
    refine W.widen (k := 0) (n := 0) (Nat.le_refl _) (Nat.le_refl _) ?_
    exact W.lret (v := v170) hx hb hr (fun t ht hW => ⟨⟨v170, ws, rfl, ⟨hw.2.2.2.2, hM⟩, by rw [ht]; exact hw.2.1, va_K.moved hW.alike hw.1, hw.2.2.1⟩, hw.2.2.2.1.F ht⟩) hw.2.2.2.1.2.2 dX12_one_171
  rcases Classical.em (a0.toInt = 13) with c_1_11 | c_1_11
  · refine lv_tableIn (tgt := 172) hx hb dX12_one_1 (by omega) (by omega) (by rw [c_1_11]; rfl) (by decide) ?_
    refine lv_lload_n hx hb dX12_one_172 rfl (lv_at hl 1 rfl) ?_
    refine lv_lload_n hx hb dX12_one_173 rfl (lv_at hl 2 rfl) ?_
    refine lv_lor hx hb dX12_one_174 ?_
    refine lv_topl (fun v174 e_v174 => ?_)
    rw [hQ]
    refine W.widen (k := 0) (n := 0) (Nat.le_refl _) (Nat.le_refl _) ?_
    exact W.lret (v := v174) hx hb hr (fun t ht hW => ⟨⟨v174, ws, rfl, ⟨hw.2.2.2.2, hM⟩, by rw [ht]; exact hw.2.1, va_K.moved hW.alike hw.1, hw.2.2.1⟩, hw.2.2.2.1.F ht⟩) hw.2.2.2.1.2.2 dX12_one_175
  rcases Classical.em (a0.toInt = 14) with c_1_12 | c_1_12
  · refine lv_tableIn (tgt := 94) hx hb dX12_one_1 (by omega) (by omega) (by rw [c_1_12]; rfl) (by decide) ?_
    refine lv_lload_n hx hb dX12_one_94 rfl (lv_at hl 2 rfl) ?_
    refine lv_lconst (v := 0) hx hb dX12_one_95 (by decide) ?_
    obtain ⟨v95, e_v95⟩ : ∃ y : Int64, y = 0 := ⟨_, rfl⟩
    refine W.eq (g2 := F0 m 96 ls [.long v95, .long a2]) (by rw [e_v95]) ?_
    have t_v95 : v95.toInt = 0 := by rw [e_v95]; decide
    refine W.lcmp hx hb dX12_one_96 ?_
    refine lv_topi (fun v96 e_v96 => ?_)
    have l_v96 := i32_lo v96
    have h_v96 := i32_hi v96
    have g_v96 := lgc e_v96
    refine lv_if_ne (tgt := 104) hx hb dX12_one_97 (by decide) (fun c_97 => ?_) (fun c_97 => ?_)
    · simp only [fa_lt, fa_le, fa_eq, li_0] at c_97
      refine lv_lload_n hx hb dX12_one_104 rfl (lv_at hl 1 rfl) ?_
      refine lv_lload_n hx hb dX12_one_105 rfl (lv_at hl 2 rfl) ?_
      refine lv_lrem hx hb dX12_one_106 (fun h9 => c_97 (by rw [e_v96, h9, e_v95]; decide)) ?_
      refine lv_topl (fun v106 e_v106 => ?_)
      rw [hQ]
      refine W.widen (k := 0) (n := 0) (Nat.le_refl _) (Nat.le_refl _) ?_
      exact W.lret (v := v106) hx hb hr (fun t ht hW => ⟨⟨v106, ws, rfl, ⟨hw.2.2.2.2, hM⟩, by rw [ht]; exact hw.2.1, va_K.moved hW.alike hw.1, hw.2.2.1⟩, hw.2.2.2.1.F ht⟩) hw.2.2.2.1.2.2 dX12_one_107
    · simp only [fa_lt, fa_le, fa_eq, li_0] at c_97
      refine lv_lconst (v := 0) hx hb dX12_one_100 (by decide) ?_
      obtain ⟨v100, e_v100⟩ : ∃ y : Int64, y = 0 := ⟨_, rfl⟩
      refine W.eq (g2 := F0 m 101 ls [.long v100]) (by rw [e_v100]) ?_
      have t_v100 : v100.toInt = 0 := by rw [e_v100]; decide
      refine lv_goto (tgt := 107) hx hb dX12_one_101 (by decide) ?_
      rw [hQ]
      refine W.widen (k := 0) (n := 0) (Nat.le_refl _) (Nat.le_refl _) ?_
      exact W.lret (v := v100) hx hb hr (fun t ht hW => ⟨⟨v100, ws, rfl, ⟨hw.2.2.2.2, hM⟩, by rw [ht]; exact hw.2.1, va_K.moved hW.alike hw.1, hw.2.2.1⟩, hw.2.2.2.1.F ht⟩) hw.2.2.2.1.2.2 dX12_one_107
  · refine lv_tableOut (tgt := 172) hx hb dX12_one_1 (by omega) (by decide) ?_
    refine lv_lload_n hx hb dX12_one_172 rfl (lv_at hl 1 rfl) ?_
    refine lv_lload_n hx hb dX12_one_173 rfl (lv_at hl 2 rfl) ?_
    refine lv_lor hx hb dX12_one_174 ?_
    refine lv_topl (fun v174 e_v174 => ?_)
    rw [hQ]
    refine W.widen (k := 0) (n := 0) (Nat.le_refl _) (Nat.le_refl _) ?_
    exact W.lret (v := v174) hx hb hr (fun t ht hW => ⟨⟨v174, ws, rfl, ⟨hw.2.2.2.2, hM⟩, by rw [ht]; exact hw.2.1, va_K.moved hW.alike hw.1, hw.2.2.1⟩, hw.2.2.2.1.F ht⟩) hw.2.2.2.1.2.2 dX12_one_175
set_option maxHeartbeats 4000000 in
set_option maxRecDepth 100000 in
theorem t_X12_votesOf (l : Launch) (dC : Nat → ClassId) (dI : Nat → Nat → Nat) (tys : List (ClassId × FieldType)) (κ : tK) (B : Nat) (ws : va_W) (hT : Ty κ tys B ws) (a0 : Nat) (k_a0 : κ a0 = some 12) (a1 : Int32) (l_a1 : 0 ≤ a1.toInt) (h_a1 : a1.toInt ≤ 5) (sz : Nat) : Met l yX12_votesOf (ws_u yX12_votesOf cX12_votesOf 4 (some .int)) ({ frames := 0, cells := 0, slots := 0, locals := 0 }) (va_Pc [.ref a0, .int a1] (cPre (dC, dI) tys ws sz)) (va_Qi (fun (r : Int32) (w : va_W) => Ty κ tys B w ∧ Sm [] [] κ ws w) (fun w t => cPost (dC, dI) tys w (va_A ws sz) t) (va_A ws sz)) 0 0 (va_A ws sz) := by
  refine Met.ofW (cc := cX12_votesOf) (maxL := 4) (ret := (some .int)) (by decide) rfl ?_
  intro p e s m args below meth c s₁ B0 hml hv
  obtain ⟨rfl, hsz, hP, hK, hD0, hE⟩ := hv
  have hx := B0.exec
  have hb := B0.bytes
  have hr := B0.returns
  have hts0 := atoms_spec (ws := ws_u yX12_votesOf cX12_votesOf 4 (some .int)) B0.pre
  have hts : ∀ w ∈ gT, w.before _ s = true := fun w h => hts0 w (List.mem_cons_of_mem _ h)
  have hown : s.vm.findClass RX12 = some m.cls := findClass_of_methodNamed B0.named
  have hlocks := B0.notSynchronized
  subst hsz
  have hD := hD0.self (sz := s.heap.size)
  generalize hAe : va_A ws s.heap.size = A at hD ⊢
  have hA : ∀ q : Nat, s.heap.size ≤ q → A q := fun q h => by rw [← hAe]; exact Or.inr h
  have hw : tW (dC, dI) tys κ B A s ws s.heap [] := ⟨hK, hP, hD, va_S.rf, hT⟩
  have hM : Sm [] [] κ ws ws := Sm.rf
  clear hP hK hD hD0 hts0
  have hl := lv_entry ([.ref a0, .int a1]) (n := 4) (Nat.le_of_ble_eq_true rfl)
  rw [lg_entry_eq]
  generalize (lg_sl ([.ref a0, .int a1]) ++ List.replicate (4 - (lg_sl ([.ref a0, .int a1])).length) Slot.unset).toArray = ls at hl ⊢
  have hl : lv_has ls 4 [(0, .ref a0), (1, .int a1)] := hl
  refine t_start (fun QQ hQ => ?_)
  refine lv_iconst (v := 0) hx hb dX12_votesOf_0 (by decide) ?_
  refine lv_istore_n (lv' := [(2, .int 0), (0, .ref a0), (1, .int a1)]) hx hb dX12_votesOf_1 rfl hl (by decide) rfl (fun ls hl => ?_)
  refine lv_iconst (v := 0) hx hb dX12_votesOf_2 (by decide) ?_
  refine lv_istore_n (lv' := [(3, .int 0), (2, .int 0), (0, .ref a0), (1, .int a1)]) hx hb dX12_votesOf_3 rfl hl (by decide) rfl (fun ls hl => ?_)
  have J4 : ∀ (n : Nat) (H : Heap) (locs : List Loc) (ls : Array Slot), (∃ (w4 : va_W) (p4_l2 : Int32) (p4_l3 : Int32), tW (dC, dI) tys κ B A s w4 H locs ∧ Sm [] [] κ ws w4 ∧ (-2147483648) ≤ p4_l2.toInt ∧ p4_l2.toInt ≤ 2147483647 ∧ 0 ≤ p4_l3.toInt ∧ p4_l3.toInt ≤ 6 ∧ lv_has ls 4 [(0, .ref a0), (1, .int a1), (2, .int p4_l2), (3, .int p4_l3)] ∧ (6 - p4_l3.toInt).toNat = n) → W p l e (headSpec (ws_u yX12_votesOf cX12_votesOf 4 (some .int)) ({ frames := 0, cells := 0, slots := 0, locals := 0 })).room s m ([.ref a0, .int a1] : List Value).toArray below meth c H locs 0 0 QQ (F0 m 4 ls []) := by
    refine loopT _ ?_
    intro n_4 H locs ls hI ih_4
    obtain ⟨w4, p4_l2, p4_l3, hw, hM, l_p4_l2, h_p4_l2, l_p4_l3, h_p4_l3, hl, hn_4⟩ := hI
    refine lv_iload_n hx hb dX12_votesOf_4 rfl (lv_at hl 3 rfl) ?_
    refine lv_aload_n hx hb dX12_votesOf_5 rfl (lv_at hl 0 rfl) ?_
    refine t_getr (k1 := 63) (ci := 12) (C := RX12) (T := TX12) (N := 38) hx hb hts iX12 hown hw k_a0 rfl rfl rfl 20 (by decide) (hts _ tw_1145) (fun _ h9 => h9) dX12_votesOf_6 rfl (fun v6 k_v6 f_a0_X12_20 => ?_)
    refine lv_iconst (v := 3) hx hb dX12_votesOf_9 (by decide) ?_
    refine t_iald hx hb hw k_v6 rfl rfl (by decide) (by decide) dX12_votesOf_10 (fun v10 r_v10 s_v10 f_v6_M_said_3 => ?_)
    have l_v10 : 0 ≤ v10.toInt := by rw [iv_63_3] at r_v10; exact r_v10
    have h_v10 : v10.toInt ≤ 6 := by rw [iv_63_3] at s_v10; exact s_v10
    refine lv_icmp_ge (tgt := 38) hx hb dX12_votesOf_11 (by decide) (fun c_11 => ?_) (fun c_11 => ?_)
    · simp only [fa_lt, fa_le, fa_eq] at c_11
      refine lv_iload_n hx hb dX12_votesOf_38 rfl (lv_at hl 2 rfl) ?_
      rw [hQ]
      refine W.widen (k := 0) (n := 0) (Nat.le_refl _) (Nat.le_refl _) ?_
      exact W.iret (v := p4_l2) hx hb hr (fun t ht hW => ⟨⟨p4_l2, w4, rfl, ⟨hw.2.2.2.2, hM⟩, by rw [ht]; exact hw.2.1, va_K.moved hW.alike hw.1, hw.2.2.1⟩, hw.2.2.2.1.F ht⟩) hw.2.2.2.1.2.2 dX12_votesOf_39
    · simp only [fa_lt, fa_le, fa_eq] at c_11
      refine lv_iload_n hx hb dX12_votesOf_14 rfl (lv_at hl 2 rfl) ?_
      refine lv_aload_n hx hb dX12_votesOf_15 rfl (lv_at hl 0 rfl) ?_
      refine t_getr (k1 := 64) (ci := 12) (C := RX12) (T := TX12) (N := 38) hx hb hts iX12 hown hw k_a0 rfl rfl rfl 23 (by decide) (hts _ tw_1148) (fun _ h9 => h9) dX12_votesOf_16 rfl (fun v16 k_v16 f_a0_X12_23 => ?_)
      refine lv_iload_n hx hb dX12_votesOf_19 rfl (lv_at hl 3 rfl) ?_
      refine t_iald hx hb hw k_v16 rfl rfl (by omega) (show p4_l3.toInt < 6 by omega) dX12_votesOf_20 (fun v20 r_v20 s_v20 q_v20 => ?_)
      have l_v20 := i32_lo v20
      have h_v20 := i32_hi v20
      refine lv_iload_n hx hb dX12_votesOf_21 rfl (lv_at hl 1 rfl) ?_
      have J30 : ∀ (H : Heap) (locs : List Loc) (ls : Array Slot) (w30 : va_W) (p30_s0 : Int32), tW (dC, dI) tys κ B A s w30 H locs → Sm [] [] κ ws w30 → 0 ≤ p30_s0.toInt → p30_s0.toInt ≤ 1 → fld w30 a0 12 20 (.ref v6) → fld w30 a0 12 23 (.ref v16) → elt w30 v6 (3 : Int32).toInt.toNat v10 → lv_has ls 4 [(0, .ref a0), (1, .int a1), (2, .int p4_l2), (3, .int p4_l3)] → W p l e (headSpec (ws_u yX12_votesOf cX12_votesOf 4 (some .int)) ({ frames := 0, cells := 0, slots := 0, locals := 0 })).room s m ([.ref a0, .int a1] : List Value).toArray below meth c H locs 0 0 QQ (F0 m 30 ls [.int p30_s0, .int p4_l2]) := by
        intro H locs ls w30 p30_s0 hw hM l_p30_s0 h_p30_s0 f_a0_X12_20 f_a0_X12_23 f_v6_M_said_3 hl
        refine lv_iadd hx hb dX12_votesOf_30 ?_
        refine lv_topi (fun v30 e_v30 => ?_)
        have l_v30 := i32_lo v30
        have h_v30 := i32_hi v30
        refine lv_istore_n (lv' := [(2, .int v30), (0, .ref a0), (1, .int a1), (3, .int p4_l3)]) hx hb dX12_votesOf_31 rfl hl (by decide) rfl (fun ls hl => ?_)
        obtain ⟨v32, e_v32⟩ : ∃ y : Int32, y = p4_l3 + 1 := ⟨_, rfl⟩
        refine lv_iinc (v := v32) (lv' := [(3, .int v32), (2, .int v30), (0, .ref a0), (1, .int a1)]) hx hb dX12_votesOf_32 hl (k := 3) rfl e_v32.symm (by decide) rfl (fun ls hl => ?_)
        have e_v32 : v32.toInt = p4_l3.toInt + 1 := ad_i e_v32 rfl li_1 (by omega) (by omega)
        refine lv_goto (tgt := 4) hx hb dX12_votesOf_35 (by decide) ?_
        exact ih_4 _ _ _ _ (by omega) ⟨w30, v30, v32, hw, hM, (by omega), (by omega), (by omega), (by omega), (lv_sub hl [2, 3, 1, 0] rfl), rfl⟩
      refine lv_icmp_ne (tgt := 29) hx hb dX12_votesOf_22 (by decide) (fun c_22 => ?_) (fun c_22 => ?_)
      · simp only [fa_lt, fa_le, fa_eq] at c_22
        refine lv_iconst (v := 0) hx hb dX12_votesOf_29 (by decide) ?_
        exact J30 _ _ _ w4 0 hw hM (by decide) (by decide) f_a0_X12_20 f_a0_X12_23 f_v6_M_said_3 (lv_sub hl [0, 1, 2, 3] rfl)
      · simp only [fa_lt, fa_le, fa_eq] at c_22
        refine lv_iconst (v := 1) hx hb dX12_votesOf_25 (by decide) ?_
        refine lv_goto (tgt := 30) hx hb dX12_votesOf_26 (by decide) ?_
        exact J30 _ _ _ w4 1 hw hM (by decide) (by decide) f_a0_X12_20 f_a0_X12_23 f_v6_M_said_3 (lv_sub hl [0, 1, 2, 3] rfl)
  exact J4 _ _ _ _ ⟨ws, 0, 0, hw, hM, (by decide), (by decide), (by decide), (by decide), (lv_sub hl [2, 3, 1, 0] rfl), rfl⟩
set_option maxHeartbeats 4000000 in
set_option maxRecDepth 100000 in
theorem t_X12_mostVoted (l : Launch) (dC : Nat → ClassId) (dI : Nat → Nat → Nat) (tys : List (ClassId × FieldType)) (κ : tK) (B : Nat) (ws : va_W) (hT : Ty κ tys B ws) (a0 : Nat) (k_a0 : κ a0 = some 12) (sz : Nat) : Met l yX12_mostVoted (ws_u yX12_mostVoted cX12_mostVoted 4 (some .int)) ({ frames := 1, cells := 0, slots := 0, locals := 23 }) (va_Pc [.ref a0] (cPre (dC, dI) tys ws sz)) (va_Qi (fun (r : Int32) (w : va_W) => (-1) ≤ r.toInt ∧ r.toInt ≤ 5 ∧ Ty κ tys B w ∧ Sm [] [] κ ws w) (fun w t => cPost (dC, dI) tys w (va_A ws sz) t) (va_A ws sz)) 0 0 (va_A ws sz) := by
  refine Met.ofW (cc := cX12_mostVoted) (maxL := 4) (ret := (some .int)) (by decide) rfl ?_
  intro p e s m args below meth c s₁ B0 hml hv
  obtain ⟨rfl, hsz, hP, hK, hD0, hE⟩ := hv
  have hx := B0.exec
  have hb := B0.bytes
  have hr := B0.returns
  have hts0 := atoms_spec (ws := ws_u yX12_mostVoted cX12_mostVoted 4 (some .int)) B0.pre
  have hts : ∀ w ∈ gT, w.before _ s = true := fun w h => hts0 w (List.mem_cons_of_mem _ h)
  have hown : s.vm.findClass RX12 = some m.cls := findClass_of_methodNamed B0.named
  have hlocks := B0.notSynchronized
  subst hsz
  have hD := hD0.self (sz := s.heap.size)
  generalize hAe : va_A ws s.heap.size = A at hD ⊢
  have hA : ∀ q : Nat, s.heap.size ≤ q → A q := fun q h => by rw [← hAe]; exact Or.inr h
  have hw : tW (dC, dI) tys κ B A s ws s.heap [] := ⟨hK, hP, hD, va_S.rf, hT⟩
  have hM : Sm [] [] κ ws ws := Sm.rf
  clear hP hK hD hD0 hts0
  have hl := lv_entry ([.ref a0]) (n := 4) (Nat.le_of_ble_eq_true rfl)
  rw [lg_entry_eq]
  generalize (lg_sl ([.ref a0]) ++ List.replicate (4 - (lg_sl ([.ref a0])).length) Slot.unset).toArray = ls at hl ⊢
  have hl : lv_has ls 4 [(0, .ref a0)] := hl
  refine t_start (fun QQ hQ => ?_)
  refine lv_iconst (v := (-1)) hx hb dX12_mostVoted_0 (by decide) ?_
  refine lv_istore_n (lv' := [(1, .int (-1)), (0, .ref a0)]) hx hb dX12_mostVoted_1 rfl hl (by decide) rfl (fun ls hl => ?_)
  refine lv_iconst (v := 0) hx hb dX12_mostVoted_2 (by decide) ?_
  refine lv_istore_n (lv' := [(2, .int 0), (1, .int (-1)), (0, .ref a0)]) hx hb dX12_mostVoted_3 rfl hl (by decide) rfl (fun ls hl => ?_)
  refine lv_iconst (v := 0) hx hb dX12_mostVoted_4 (by decide) ?_
  refine lv_istore_n (lv' := [(3, .int 0), (2, .int 0), (1, .int (-1)), (0, .ref a0)]) hx hb dX12_mostVoted_5 rfl hl (by decide) rfl (fun ls hl => ?_)
  have J6 : ∀ (n : Nat) (H : Heap) (locs : List Loc) (ls : Array Slot), (∃ (w6 : va_W) (p6_l1 : Int32) (p6_l2 : Int32) (p6_l3 : Int32), tW (dC, dI) tys κ B A s w6 H locs ∧ Sm [] [] κ ws w6 ∧ (-1) ≤ p6_l1.toInt ∧ p6_l1.toInt ≤ 5 ∧ (-2147483648) ≤ p6_l2.toInt ∧ p6_l2.toInt ≤ 2147483647 ∧ 0 ≤ p6_l3.toInt ∧ p6_l3.toInt ≤ 6 ∧ lv_has ls 4 [(0, .ref a0), (1, .int p6_l1), (2, .int p6_l2), (3, .int p6_l3)] ∧ (6 - p6_l3.toInt).toNat = n) → W p l e (headSpec (ws_u yX12_mostVoted cX12_mostVoted 4 (some .int)) ({ frames := 1, cells := 0, slots := 0, locals := 23 })).room s m ([.ref a0] : List Value).toArray below meth c H locs 0 0 QQ (F0 m 6 ls []) := by
    refine loopT _ ?_
    intro n_6 H locs ls hI ih_6
    obtain ⟨w6, p6_l1, p6_l2, p6_l3, hw, hM, l_p6_l1, h_p6_l1, l_p6_l2, h_p6_l2, l_p6_l3, h_p6_l3, hl, hn_6⟩ := hI
    refine lv_iload_n hx hb dX12_mostVoted_6 rfl (lv_at hl 3 rfl) ?_
    refine lv_aload_n hx hb dX12_mostVoted_7 rfl (lv_at hl 0 rfl) ?_
    refine t_getr (k1 := 63) (ci := 12) (C := RX12) (T := TX12) (N := 38) hx hb hts iX12 hown hw k_a0 rfl rfl rfl 20 (by decide) (hts _ tw_1145) (fun _ h9 => h9) dX12_mostVoted_8 rfl (fun v8 k_v8 f_a0_X12_20 => ?_)
    refine lv_iconst (v := 3) hx hb dX12_mostVoted_11 (by decide) ?_
    refine t_iald hx hb hw k_v8 rfl rfl (by decide) (by decide) dX12_mostVoted_12 (fun v12 r_v12 s_v12 f_v8_M_said_3 => ?_)
    have l_v12 : 0 ≤ v12.toInt := by rw [iv_63_3] at r_v12; exact r_v12
    have h_v12 : v12.toInt ≤ 6 := by rw [iv_63_3] at s_v12; exact s_v12
    refine lv_icmp_ge (tgt := 42) hx hb dX12_mostVoted_13 (by decide) (fun c_13 => ?_) (fun c_13 => ?_)
    · simp only [fa_lt, fa_le, fa_eq] at c_13
      refine lv_iload_n hx hb dX12_mostVoted_42 rfl (lv_at hl 1 rfl) ?_
      rw [hQ]
      refine W.widen (k := 0) (n := 0) (Nat.le_refl _) (Nat.le_refl _) ?_
      exact W.iret (v := p6_l1) hx hb hr (fun t ht hW => ⟨⟨p6_l1, w6, rfl, ⟨(by omega), (by omega), hw.2.2.2.2, hM⟩, by rw [ht]; exact hw.2.1, va_K.moved hW.alike hw.1, hw.2.2.1⟩, hw.2.2.2.1.F ht⟩) hw.2.2.2.1.2.2 dX12_mostVoted_43
    · simp only [fa_lt, fa_le, fa_eq] at c_13
      refine lv_aload_n hx hb dX12_mostVoted_16 rfl (lv_at hl 0 rfl) ?_
      refine lv_iload_n hx hb dX12_mostVoted_17 rfl (lv_at hl 3 rfl) ?_
      refine t_calli (va_runV (As := [.int p6_l3]) (rest := []) ⟨hx, hb, hml, hown, hts⟩ (t_X12_votesOf l dC dI tys κ B w6 hw.2.2.2.2 a0 k_a0 p6_l3 (by omega) (by omega) H.size) (cwV 1 hts (gUV tw_1552 tw_1554 ts_6_11 tw_13 tw_1555) rfl rfl rfl (by decide +kernel) ⟨(Nat.le_of_ble_eq_true rfl), (Nat.le_of_ble_eq_true rfl)⟩) ⟨cPre.blind, t_recv hw (ci := 12) k_a0 rfl rfl, cPre.use hw.2.1 hw.1 hw.2.2.1 hE⟩ rfl rfl hl.1 rfl (lv_room (Nat.le_of_ble_eq_true rfl)) dX12_mostVoted_18 ⟨(Nat.le_of_ble_eq_true rfl), (Nat.le_of_ble_eq_true rfl)⟩) hw hA (fun _ _ h => h.1) (fun v18 w_1 H locs hp hw => ?_)
      obtain ⟨_, hm⟩ := hp
      have l_v18 := i32_lo v18
      have h_v18 := i32_hi v18
      have hM := hM.trans hm (by decide) (by decide)
      have f_a0_X12_20 := hm.1 _ _ _ _ f_a0_X12_20 (by decide)
      have f_v8_M_said_3 := hm.elt k_v8 (by decide) f_v8_M_said_3
      refine lv_iload_n hx hb dX12_mostVoted_21 rfl (lv_at hl 2 rfl) ?_
      have J36 : ∀ (H : Heap) (locs : List Loc) (ls : Array Slot) (w36 : va_W) (p36_l1 : Int32) (p36_l2 : Int32), tW (dC, dI) tys κ B A s w36 H locs → Sm [] [] κ ws w36 → (-1) ≤ p36_l1.toInt → p36_l1.toInt ≤ 5 → (-2147483648) ≤ p36_l2.toInt → p36_l2.toInt ≤ 2147483647 → fld w36 a0 12 20 (.ref v8) → elt w36 v8 (3 : Int32).toInt.toNat v12 → lv_has ls 4 [(0, .ref a0), (1, .int p36_l1), (2, .int p36_l2), (3, .int p6_l3)] → W p l e (headSpec (ws_u yX12_mostVoted cX12_mostVoted 4 (some .int)) ({ frames := 1, cells := 0, slots := 0, locals := 23 })).room s m ([.ref a0] : List Value).toArray below meth c H locs 0 0 QQ (F0 m 36 ls []) := by
        intro H locs ls w36 p36_l1 p36_l2 hw hM l_p36_l1 h_p36_l1 l_p36_l2 h_p36_l2 f_a0_X12_20 f_v8_M_said_3 hl
        obtain ⟨v36, e_v36⟩ : ∃ y : Int32, y = p6_l3 + 1 := ⟨_, rfl⟩
        refine lv_iinc (v := v36) (lv' := [(3, .int v36), (0, .ref a0), (1, .int p36_l1), (2, .int p36_l2)]) hx hb dX12_mostVoted_36 hl (k := 3) rfl e_v36.symm (by decide) rfl (fun ls hl => ?_)
        have e_v36 : v36.toInt = p6_l3.toInt + 1 := ad_i e_v36 rfl li_1 (by omega) (by omega)
        refine lv_goto (tgt := 6) hx hb dX12_mostVoted_39 (by decide) ?_
        exact ih_6 _ _ _ _ (by omega) ⟨w36, p36_l1, p36_l2, v36, hw, hM, (by omega), (by omega), (by omega), (by omega), (by omega), (by omega), (lv_sub hl [1, 2, 3, 0] rfl), rfl⟩
      refine lv_icmp_gt (tgt := 28) hx hb dX12_mostVoted_22 (by decide) (fun c_22 => ?_) (fun c_22 => ?_)
      · simp only [fa_lt, fa_le, fa_eq] at c_22
        refine lv_iload_n hx hb dX12_mostVoted_28 rfl (lv_at hl 3 rfl) ?_
        refine lv_istore_n (lv' := [(1, .int p6_l3), (0, .ref a0), (2, .int p6_l2), (3, .int p6_l3)]) hx hb dX12_mostVoted_29 rfl hl (by decide) rfl (fun ls hl => ?_)
        refine lv_aload_n hx hb dX12_mostVoted_30 rfl (lv_at hl 1 rfl) ?_
        refine lv_iload_n hx hb dX12_mostVoted_31 rfl (lv_at hl 3 rfl) ?_
        refine t_calli (va_runV (As := [.int p6_l3]) (rest := []) ⟨hx, hb, hml, hown, hts⟩ (t_X12_votesOf l dC dI tys κ B w_1 hw.2.2.2.2 a0 k_a0 p6_l3 (by omega) (by omega) H.size) (cwV 1 hts (gUV tw_1552 tw_1554 ts_6_11 tw_13 tw_1555) rfl rfl rfl (by decide +kernel) ⟨(Nat.le_of_ble_eq_true rfl), (Nat.le_of_ble_eq_true rfl)⟩) ⟨cPre.blind, t_recv hw (ci := 12) k_a0 rfl rfl, cPre.use hw.2.1 hw.1 hw.2.2.1 hE⟩ rfl rfl hl.1 rfl (lv_room (Nat.le_of_ble_eq_true rfl)) dX12_mostVoted_32 ⟨(Nat.le_of_ble_eq_true rfl), (Nat.le_of_ble_eq_true rfl)⟩) hw hA (fun _ _ h => h.1) (fun v32 w_2 H locs hp hw => ?_)
        obtain ⟨_, hm⟩ := hp
        have l_v32 := i32_lo v32
        have h_v32 := i32_hi v32
        have hM := hM.trans hm (by decide) (by decide)
        have f_a0_X12_20 := hm.1 _ _ _ _ f_a0_X12_20 (by decide)
        have f_v8_M_said_3 := hm.elt k_v8 (by decide) f_v8_M_said_3
        refine lv_istore_n (lv' := [(2, .int v32), (1, .int p6_l3), (0, .ref a0), (3, .int p6_l3)]) hx hb dX12_mostVoted_35 rfl hl (by decide) rfl (fun ls hl => ?_)
        exact J36 _ _ _ w_2 p6_l3 v32 hw hM (by omega) (by omega) (by omega) (by omega) f_a0_X12_20 f_v8_M_said_3 (lv_sub hl [2, 1, 0, 3] rfl)
      · simp only [fa_lt, fa_le, fa_eq] at c_22
        refine lv_goto (tgt := 36) hx hb dX12_mostVoted_25 (by decide) ?_
        exact J36 _ _ _ w_1 p6_l1 p6_l2 hw hM (by omega) (by omega) (by omega) (by omega) f_a0_X12_20 f_v8_M_said_3 (lv_sub hl [0, 1, 2, 3] rfl)
  exact J6 _ _ _ _ ⟨ws, (-1), 0, 0, hw, hM, (by decide), (by decide), (by decide), (by decide), (by decide), (by decide), (lv_sub hl [3, 2, 1, 0] rfl), rfl⟩
set_option maxHeartbeats 4000000 in
set_option maxRecDepth 100000 in
theorem t_X12_isSnow (l : Launch) (dC : Nat → ClassId) (dI : Nat → Nat → Nat) (tys : List (ClassId × FieldType)) (κ : tK) (B : Nat) (ws : va_W) (hT : Ty κ tys B ws) (a0 : Nat) (k_a0 : κ a0 = some 12) (sz : Nat) : Met l yX12_isSnow (ws_u yX12_isSnow cX12_isSnow 1 (some .boolean)) ({ frames := 0, cells := 0, slots := 0, locals := 0 }) (va_Pc [.ref a0] (cPre (dC, dI) tys ws sz)) (va_Qi (fun (r : Int32) (w : va_W) => 0 ≤ r.toInt ∧ r.toInt ≤ 1 ∧ Ty κ tys B w ∧ Sm [] [] κ ws w) (fun w t => cPost (dC, dI) tys w (va_A ws sz) t) (va_A ws sz)) 0 0 (va_A ws sz) := by
  refine Met.ofW (cc := cX12_isSnow) (maxL := 1) (ret := (some .boolean)) (by decide) rfl ?_
  intro p e s m args below meth c s₁ B0 hml hv
  obtain ⟨rfl, hsz, hP, hK, hD0, hE⟩ := hv
  have hx := B0.exec
  have hb := B0.bytes
  have hr := B0.returns
  have hts0 := atoms_spec (ws := ws_u yX12_isSnow cX12_isSnow 1 (some .boolean)) B0.pre
  have hts : ∀ w ∈ gT, w.before _ s = true := fun w h => hts0 w (List.mem_cons_of_mem _ h)
  have hown : s.vm.findClass RX12 = some m.cls := findClass_of_methodNamed B0.named
  have hlocks := B0.notSynchronized
  subst hsz
  have hD := hD0.self (sz := s.heap.size)
  generalize hAe : va_A ws s.heap.size = A at hD ⊢
  have hA : ∀ q : Nat, s.heap.size ≤ q → A q := fun q h => by rw [← hAe]; exact Or.inr h
  have hw : tW (dC, dI) tys κ B A s ws s.heap [] := ⟨hK, hP, hD, va_S.rf, hT⟩
  have hM : Sm [] [] κ ws ws := Sm.rf
  clear hP hK hD hD0 hts0
  have hl := lv_entry ([.ref a0]) (n := 1) (Nat.le_of_ble_eq_true rfl)
  rw [lg_entry_eq]
  generalize (lg_sl ([.ref a0]) ++ List.replicate (1 - (lg_sl ([.ref a0])).length) Slot.unset).toArray = ls at hl ⊢
  have hl : lv_has ls 1 [(0, .ref a0)] := hl
  refine t_start (fun QQ hQ => ?_)
  refine lv_aload_n hx hb dX12_isSnow_0 rfl (lv_at hl 0 rfl) ?_
  refine t_getr (k1 := 63) (ci := 12) (C := RX12) (T := TX12) (N := 38) hx hb hts iX12 hown hw k_a0 rfl rfl rfl 20 (by decide) (hts _ tw_1145) (fun _ h9 => h9) dX12_isSnow_1 rfl (fun v1 k_v1 f_a0_X12_20 => ?_)
  refine lv_bipush (v := 10) hx hb dX12_isSnow_4 (by decide) ?_
  refine t_iald hx hb hw k_v1 rfl rfl (by decide) (by decide) dX12_isSnow_6 (fun v6 r_v6 s_v6 f_v1_M_said_10 => ?_)
  have l_v6 : 0 ≤ v6.toInt := by rw [iv_63_10] at r_v6; exact r_v6
  have h_v6 : v6.toInt ≤ 1999 := by rw [iv_63_10] at s_v6; exact s_v6
  refine lv_bipush (v := 60) hx hb dX12_isSnow_7 (by decide) ?_
  refine lv_icmp_gt (tgt := 36) hx hb dX12_isSnow_9 (by decide) (fun c_9 => ?_) (fun c_9 => ?_)
  · simp only [fa_lt, fa_le, fa_eq, li_60] at c_9
    refine lv_iconst (v := 0) hx hb dX12_isSnow_36 (by decide) ?_
    rw [hQ]
    refine W.widen (k := 0) (n := 0) (Nat.le_refl _) (Nat.le_refl _) ?_
    exact W.zret (v := 0) hx hb hr rfl (fun t ht hW => ⟨⟨0, ws, rfl, ⟨(by decide), (by decide), hw.2.2.2.2, hM⟩, by rw [ht]; exact hw.2.1, va_K.moved hW.alike hw.1, hw.2.2.1⟩, hw.2.2.2.1.F ht⟩) hw.2.2.2.1.2.2 dX12_isSnow_37
  · simp only [fa_lt, fa_le, fa_eq, li_60] at c_9
    refine lv_aload_n hx hb dX12_isSnow_12 rfl (lv_at hl 0 rfl) ?_
    refine t_getk (ci := 12) (C := RX12) (T := TX12) (N := 38) hx hb hts iX12 hown hw rfl 20 (by decide) (hts _ tw_1145) (fun _ h9 => h9) dX12_isSnow_13 f_a0_X12_20 ?_
    refine lv_sipush (v := 224) hx hb dX12_isSnow_16 (by decide) ?_
    refine lv_aload_n hx hb dX12_isSnow_19 rfl (lv_at hl 0 rfl) ?_
    refine t_getk (ci := 12) (C := RX12) (T := TX12) (N := 38) hx hb hts iX12 hown hw rfl 20 (by decide) (hts _ tw_1145) (fun _ h9 => h9) dX12_isSnow_20 f_a0_X12_20 ?_
    refine lv_bipush (v := 10) hx hb dX12_isSnow_23 (by decide) ?_
    refine t_ialdk hx hb hw k_v1 rfl rfl (by decide) (by decide) f_v1_M_said_10 dX12_isSnow_25 ?_
    refine lv_iadd hx hb dX12_isSnow_26 ?_
    refine lv_topi (fun v26 e_v26 => ?_)
    have e_v26 : v26.toInt = 224 + v6.toInt := ad_i e_v26 li_224 rfl (by omega) (by omega)
    refine t_iald hx hb hw k_v1 rfl rfl (by omega) (show v26.toInt < 306 by omega) dX12_isSnow_27 (fun v27 r_v27 s_v27 q_v27 => ?_)
    have l_v27 := i32_lo v27
    have h_v27 := i32_hi v27
    refine lv_iconst (v := 1) hx hb dX12_isSnow_28 (by decide) ?_
    refine lv_icmp_ne (tgt := 36) hx hb dX12_isSnow_29 (by decide) (fun c_29 => ?_) (fun c_29 => ?_)
    · simp only [fa_lt, fa_le, fa_eq, li_1] at c_29
      refine lv_iconst (v := 0) hx hb dX12_isSnow_36 (by decide) ?_
      rw [hQ]
      refine W.widen (k := 0) (n := 0) (Nat.le_refl _) (Nat.le_refl _) ?_
      exact W.zret (v := 0) hx hb hr rfl (fun t ht hW => ⟨⟨0, ws, rfl, ⟨(by decide), (by decide), hw.2.2.2.2, hM⟩, by rw [ht]; exact hw.2.1, va_K.moved hW.alike hw.1, hw.2.2.1⟩, hw.2.2.2.1.F ht⟩) hw.2.2.2.1.2.2 dX12_isSnow_37
    · simp only [fa_lt, fa_le, fa_eq, li_1] at c_29
      refine lv_iconst (v := 1) hx hb dX12_isSnow_32 (by decide) ?_
      refine lv_goto (tgt := 37) hx hb dX12_isSnow_33 (by decide) ?_
      rw [hQ]
      refine W.widen (k := 0) (n := 0) (Nat.le_refl _) (Nat.le_refl _) ?_
      exact W.zret (v := 1) hx hb hr rfl (fun t ht hW => ⟨⟨1, ws, rfl, ⟨(by decide), (by decide), hw.2.2.2.2, hM⟩, by rw [ht]; exact hw.2.1, va_K.moved hW.alike hw.1, hw.2.2.1⟩, hw.2.2.2.1.F ht⟩) hw.2.2.2.1.2.2 dX12_isSnow_37
set_option maxHeartbeats 4000000 in
set_option maxRecDepth 100000 in
theorem t_X12_spot (l : Launch) (dC : Nat → ClassId) (dI : Nat → Nat → Nat) (tys : List (ClassId × FieldType)) (κ : tK) (B : Nat) (ws : va_W) (hT : Ty κ tys B ws) (a0 : Int32) (l_a0 : 0 ≤ a0.toInt) (h_a0 : a0.toInt ≤ 6) (a1 : Int32) (l_a1 : 0 ≤ a1.toInt) (h_a1 : a1.toInt ≤ 60) (sz : Nat) : Met l yX12_spot (ws_u yX12_spot cX12_spot 2 (some .int)) ({ frames := 0, cells := 0, slots := 0, locals := 0 }) (va_Pc [.int a0, .int a1] (cPre (dC, dI) tys ws sz)) (va_Qi (fun (r : Int32) (w : va_W) => 0 ≤ r.toInt ∧ r.toInt ≤ 426 ∧ Ty κ tys B w ∧ Sm [] [] κ ws w) (fun w t => cPost (dC, dI) tys w (va_A ws sz) t) (va_A ws sz)) 0 0 (va_A ws sz) := by
  refine Met.ofW (cc := cX12_spot) (maxL := 2) (ret := (some .int)) (by decide) rfl ?_
  intro p e s m args below meth c s₁ B0 hml hv
  obtain ⟨rfl, hsz, hP, hK, hD0, hE⟩ := hv
  have hx := B0.exec
  have hb := B0.bytes
  have hr := B0.returns
  have hts0 := atoms_spec (ws := ws_u yX12_spot cX12_spot 2 (some .int)) B0.pre
  have hts : ∀ w ∈ gT, w.before _ s = true := fun w h => hts0 w (List.mem_cons_of_mem _ h)
  have hown : s.vm.findClass RX12 = some m.cls := findClass_of_methodNamed B0.named
  have hlocks := B0.notSynchronized
  subst hsz
  have hD := hD0.self (sz := s.heap.size)
  generalize hAe : va_A ws s.heap.size = A at hD ⊢
  have hA : ∀ q : Nat, s.heap.size ≤ q → A q := fun q h => by rw [← hAe]; exact Or.inr h
  have hw : tW (dC, dI) tys κ B A s ws s.heap [] := ⟨hK, hP, hD, va_S.rf, hT⟩
  have hM : Sm [] [] κ ws ws := Sm.rf
  clear hP hK hD hD0 hts0
  have hl := lv_entry ([.int a0, .int a1]) (n := 2) (Nat.le_of_ble_eq_true rfl)
  rw [lg_entry_eq]
  generalize (lg_sl ([.int a0, .int a1]) ++ List.replicate (2 - (lg_sl ([.int a0, .int a1])).length) Slot.unset).toArray = ls at hl ⊢
  have hl : lv_has ls 2 [(0, .int a0), (1, .int a1)] := hl
  refine t_start (fun QQ hQ => ?_)
  refine lv_bipush (v := 61) hx hb dX12_spot_0 (by decide) ?_
  refine lv_iload_n hx hb dX12_spot_2 rfl (lv_at hl 0 rfl) ?_
  refine lv_imul hx hb dX12_spot_3 ?_
  refine lv_topi (fun v3 e_v3 => ?_)
  have e_v3 : v3.toInt = 61 * a0.toInt := ml_i e_v3 li_61 rfl (by omega) (by omega)
  refine lv_iload_n hx hb dX12_spot_4 rfl (lv_at hl 1 rfl) ?_
  refine lv_iadd hx hb dX12_spot_5 ?_
  refine lv_topi (fun v5 e_v5 => ?_)
  have e_v5 : v5.toInt = v3.toInt + a1.toInt := ad_i e_v5 rfl rfl (by omega) (by omega)
  rw [hQ]
  refine W.widen (k := 0) (n := 0) (Nat.le_refl _) (Nat.le_refl _) ?_
  exact W.iret (v := v5) hx hb hr (fun t ht hW => ⟨⟨v5, ws, rfl, ⟨(by omega), (by omega), hw.2.2.2.2, hM⟩, by rw [ht]; exact hw.2.1, va_K.moved hW.alike hw.1, hw.2.2.1⟩, hw.2.2.2.1.F ht⟩) hw.2.2.2.1.2.2 dX12_spot_6
set_option maxHeartbeats 4000000 in
set_option maxRecDepth 100000 in
theorem t_X12_alikeAt (l : Launch) (dC : Nat → ClassId) (dI : Nat → Nat → Nat) (tys : List (ClassId × FieldType)) (κ : tK) (B : Nat) (ws : va_W) (hT : Ty κ tys B ws) (a0 : Nat) (k_a0 : κ a0 = some 12) (a1 : Int32) (l_a1 : 0 ≤ a1.toInt) (h_a1 : a1.toInt ≤ 60) (sz : Nat) : Met l yX12_alikeAt (ws_u yX12_alikeAt cX12_alikeAt 6 (some .int)) ({ frames := 1, cells := 0, slots := 0, locals := 21 }) (va_Pc [.ref a0, .int a1] (cPre (dC, dI) tys ws sz)) (va_Qi (fun (r : Int32) (w : va_W) => 0 ≤ r.toInt ∧ r.toInt ≤ 2147483647 ∧ Ty κ tys B w ∧ Sm [] [] κ ws w) (fun w t => cPost (dC, dI) tys w (va_A ws sz) t) (va_A ws sz)) 0 0 (va_A ws sz) := by
  refine Met.ofW (cc := cX12_alikeAt) (maxL := 6) (ret := (some .int)) (by decide) rfl ?_
  intro p e s m args below meth c s₁ B0 hml hv
  obtain ⟨rfl, hsz, hP, hK, hD0, hE⟩ := hv
  have hx := B0.exec
  have hb := B0.bytes
  have hr := B0.returns
  have hts0 := atoms_spec (ws := ws_u yX12_alikeAt cX12_alikeAt 6 (some .int)) B0.pre
  have hts : ∀ w ∈ gT, w.before _ s = true := fun w h => hts0 w (List.mem_cons_of_mem _ h)
  have hown : s.vm.findClass RX12 = some m.cls := findClass_of_methodNamed B0.named
  have hlocks := B0.notSynchronized
  subst hsz
  have hD := hD0.self (sz := s.heap.size)
  generalize hAe : va_A ws s.heap.size = A at hD ⊢
  have hA : ∀ q : Nat, s.heap.size ≤ q → A q := fun q h => by rw [← hAe]; exact Or.inr h
  have hw : tW (dC, dI) tys κ B A s ws s.heap [] := ⟨hK, hP, hD, va_S.rf, hT⟩
  have hM : Sm [] [] κ ws ws := Sm.rf
  clear hP hK hD hD0 hts0
  have hl := lv_entry ([.ref a0, .int a1]) (n := 6) (Nat.le_of_ble_eq_true rfl)
  rw [lg_entry_eq]
  generalize (lg_sl ([.ref a0, .int a1]) ++ List.replicate (6 - (lg_sl ([.ref a0, .int a1])).length) Slot.unset).toArray = ls at hl ⊢
  have hl : lv_has ls 6 [(0, .ref a0), (1, .int a1)] := hl
  refine t_start (fun QQ hQ => ?_)
  refine lv_iconst (v := 0) hx hb dX12_alikeAt_0 (by decide) ?_
  refine lv_istore_n (lv' := [(2, .int 0), (0, .ref a0), (1, .int a1)]) hx hb dX12_alikeAt_1 rfl hl (by decide) rfl (fun ls hl => ?_)
  refine lv_iconst (v := 0) hx hb dX12_alikeAt_2 (by decide) ?_
  refine lv_istore_n (lv' := [(3, .int 0), (2, .int 0), (0, .ref a0), (1, .int a1)]) hx hb dX12_alikeAt_3 rfl hl (by decide) rfl (fun ls hl => ?_)
  have J4 : ∀ (n : Nat) (H : Heap) (locs : List Loc) (ls : Array Slot), (∃ (w4 : va_W) (p4_l2 : Int32) (p4_l3 : Int32), tW (dC, dI) tys κ B A s w4 H locs ∧ Sm [] [] κ ws w4 ∧ 0 ≤ p4_l2.toInt ∧ p4_l2.toInt ≤ 2147483647 ∧ 0 ≤ p4_l3.toInt ∧ p4_l3.toInt ≤ 7 ∧ lv_has ls 6 [(0, .ref a0), (1, .int a1), (2, .int p4_l2), (3, .int p4_l3)] ∧ (7 - p4_l3.toInt).toNat = n) → W p l e (headSpec (ws_u yX12_alikeAt cX12_alikeAt 6 (some .int)) ({ frames := 1, cells := 0, slots := 0, locals := 21 })).room s m ([.ref a0, .int a1] : List Value).toArray below meth c H locs 0 0 QQ (F0 m 4 ls []) := by
    refine loopT _ ?_
    intro n_4 H locs ls hI ih_4
    obtain ⟨w4, p4_l2, p4_l3, hw, hM, l_p4_l2, h_p4_l2, l_p4_l3, h_p4_l3, hl, hn_4⟩ := hI
    refine lv_iload_n hx hb dX12_alikeAt_4 rfl (lv_at hl 3 rfl) ?_
    refine lv_aload_n hx hb dX12_alikeAt_5 rfl (lv_at hl 0 rfl) ?_
    refine t_geti (ci := 12) (C := RX12) (T := TX12) (N := 38) hx hb hts iX12 hown hw k_a0 rfl rfl rfl 2 (by decide) (hts _ tw_1127) (fun _ h9 => h9) dX12_alikeAt_6 rfl (fun v6 l_v6 h_v6 f_a0_X12_2 => ?_)
    have l_v6 : 0 ≤ v6.toInt := l_v6
    have h_v6 : v6.toInt ≤ 6 := h_v6
    refine lv_icmp_gt (tgt := 105) hx hb dX12_alikeAt_9 (by decide) (fun c_9 => ?_) (fun c_9 => ?_)
    · simp only [fa_lt, fa_le, fa_eq] at c_9
      refine lv_iload_n hx hb dX12_alikeAt_105 rfl (lv_at hl 2 rfl) ?_
      rw [hQ]
      refine W.widen (k := 0) (n := 0) (Nat.le_refl _) (Nat.le_refl _) ?_
      exact W.iret (v := p4_l2) hx hb hr (fun t ht hW => ⟨⟨p4_l2, w4, rfl, ⟨(by omega), (by omega), hw.2.2.2.2, hM⟩, by rw [ht]; exact hw.2.1, va_K.moved hW.alike hw.1, hw.2.2.1⟩, hw.2.2.2.1.F ht⟩) hw.2.2.2.1.2.2 dX12_alikeAt_106
    · simp only [fa_lt, fa_le, fa_eq] at c_9
      refine lv_iconst (v := 0) hx hb dX12_alikeAt_12 (by decide) ?_
      refine lv_istore (lv' := [(4, .int 0), (0, .ref a0), (1, .int a1), (2, .int p4_l2), (3, .int p4_l3)]) hx hb dX12_alikeAt_13 hl (by decide) rfl (fun ls hl => ?_)
      refine lv_iconst (v := 0) hx hb dX12_alikeAt_15 (by decide) ?_
      refine lv_istore (lv' := [(5, .int 0), (4, .int 0), (0, .ref a0), (1, .int a1), (2, .int p4_l2), (3, .int p4_l3)]) hx hb dX12_alikeAt_16 hl (by decide) rfl (fun ls hl => ?_)
      have J18 : ∀ (n : Nat) (H : Heap) (locs : List Loc) (ls : Array Slot), (∃ (w18 : va_W) (p18_l4 : Int32) (p18_l5 : Int32), tW (dC, dI) tys κ B A s w18 H locs ∧ Sm [] [] κ ws w18 ∧ (-2147483648) ≤ p18_l4.toInt ∧ p18_l4.toInt ≤ 2147483647 ∧ 0 ≤ p18_l5.toInt ∧ p18_l5.toInt ≤ 7 ∧ fld w18 a0 12 2 (.int v6) ∧ lv_has ls 6 [(0, .ref a0), (1, .int a1), (2, .int p4_l2), (3, .int p4_l3), (4, .int p18_l4), (5, .int p18_l5)] ∧ (7 - p18_l5.toInt).toNat = n) → W p l e (headSpec (ws_u yX12_alikeAt cX12_alikeAt 6 (some .int)) ({ frames := 1, cells := 0, slots := 0, locals := 21 })).room s m ([.ref a0, .int a1] : List Value).toArray below meth c H locs 0 0 QQ (F0 m 18 ls []) := by
        refine loopT _ ?_
        intro n_18 H locs ls hI ih_18
        obtain ⟨w18, p18_l4, p18_l5, hw, hM, l_p18_l4, h_p18_l4, l_p18_l5, h_p18_l5, f_a0_X12_2, hl, hn_18⟩ := hI
        refine lv_iload hx hb dX12_alikeAt_18 (lv_at hl 5 rfl) ?_
        refine lv_aload_n hx hb dX12_alikeAt_20 rfl (lv_at hl 0 rfl) ?_
        refine t_getk (ci := 12) (C := RX12) (T := TX12) (N := 38) hx hb hts iX12 hown hw rfl 2 (by decide) (hts _ tw_1127) (fun _ h9 => h9) dX12_alikeAt_21 f_a0_X12_2 ?_
        have J86 : ∀ (H : Heap) (locs : List Loc) (ls : Array Slot) (w86 : va_W), tW (dC, dI) tys κ B A s w86 H locs → Sm [] [] κ ws w86 → fld w86 a0 12 2 (.int v6) → lv_has ls 6 [(0, .ref a0), (1, .int a1), (2, .int p4_l2), (3, .int p4_l3), (4, .int p18_l4), (5, .int p18_l5)] → W p l e (headSpec (ws_u yX12_alikeAt cX12_alikeAt 6 (some .int)) ({ frames := 1, cells := 0, slots := 0, locals := 21 })).room s m ([.ref a0, .int a1] : List Value).toArray below meth c H locs 0 0 QQ (F0 m 86 ls []) := by
          intro H locs ls w86 hw hM f_a0_X12_2 hl
          refine lv_iload hx hb dX12_alikeAt_86 (lv_at hl 4 rfl) ?_
          refine lv_iload_n hx hb dX12_alikeAt_88 rfl (lv_at hl 2 rfl) ?_
          have J98 : ∀ (H : Heap) (locs : List Loc) (ls : Array Slot) (w98 : va_W) (p98_s0 : Int32), tW (dC, dI) tys κ B A s w98 H locs → Sm [] [] κ ws w98 → 0 ≤ p98_s0.toInt → p98_s0.toInt ≤ 2147483647 → fld w98 a0 12 2 (.int v6) → lv_has ls 6 [(0, .ref a0), (1, .int a1), (2, .int p4_l2), (3, .int p4_l3), (4, .int p18_l4), (5, .int p18_l5)] → W p l e (headSpec (ws_u yX12_alikeAt cX12_alikeAt 6 (some .int)) ({ frames := 1, cells := 0, slots := 0, locals := 21 })).room s m ([.ref a0, .int a1] : List Value).toArray below meth c H locs 0 0 QQ (F0 m 98 ls [.int p98_s0]) := by
            intro H locs ls w98 p98_s0 hw hM l_p98_s0 h_p98_s0 f_a0_X12_2 hl
            refine lv_istore_n (lv' := [(2, .int p98_s0), (0, .ref a0), (1, .int a1), (3, .int p4_l3), (4, .int p18_l4), (5, .int p18_l5)]) hx hb dX12_alikeAt_98 rfl hl (by decide) rfl (fun ls hl => ?_)
            obtain ⟨v99, e_v99⟩ : ∃ y : Int32, y = p4_l3 + 1 := ⟨_, rfl⟩
            refine lv_iinc (v := v99) (lv' := [(3, .int v99), (2, .int p98_s0), (0, .ref a0), (1, .int a1), (4, .int p18_l4), (5, .int p18_l5)]) hx hb dX12_alikeAt_99 hl (k := 3) rfl e_v99.symm (by decide) rfl (fun ls hl => ?_)
            have e_v99 : v99.toInt = p4_l3.toInt + 1 := ad_i e_v99 rfl li_1 (by omega) (by omega)
            refine lv_goto (tgt := 4) hx hb dX12_alikeAt_102 (by decide) ?_
            exact ih_4 _ _ _ _ (by omega) ⟨w98, p98_s0, v99, hw, hM, (by omega), (by omega), (by omega), (by omega), (lv_sub hl [2, 3, 1, 0] rfl), rfl⟩
          refine lv_icmp_le (tgt := 97) hx hb dX12_alikeAt_89 (by decide) (fun c_89 => ?_) (fun c_89 => ?_)
          · simp only [fa_lt, fa_le, fa_eq] at c_89
            refine lv_iload_n hx hb dX12_alikeAt_97 rfl (lv_at hl 2 rfl) ?_
            exact J98 _ _ _ w86 p4_l2 hw hM (by omega) (by omega) f_a0_X12_2 (lv_sub hl [0, 1, 2, 3, 4, 5] rfl)
          · simp only [fa_lt, fa_le, fa_eq] at c_89
            refine lv_iload hx hb dX12_alikeAt_92 (lv_at hl 4 rfl) ?_
            refine lv_goto (tgt := 98) hx hb dX12_alikeAt_94 (by decide) ?_
            exact J98 _ _ _ w86 p18_l4 hw hM (by omega) (by omega) f_a0_X12_2 (lv_sub hl [0, 1, 2, 3, 4, 5] rfl)
        refine lv_icmp_gt (tgt := 86) hx hb dX12_alikeAt_24 (by decide) (fun c_24 => ?_) (fun c_24 => ?_)
        · simp only [fa_lt, fa_le, fa_eq] at c_24
          exact J86 _ _ _ w18 hw hM f_a0_X12_2 (lv_sub hl [0, 1, 2, 3, 4, 5] rfl)
        · simp only [fa_lt, fa_le, fa_eq] at c_24
          refine lv_aload_n hx hb dX12_alikeAt_27 rfl (lv_at hl 0 rfl) ?_
          refine t_getr (k1 := 70) (ci := 12) (C := RX12) (T := TX12) (N := 38) hx hb hts iX12 hown hw k_a0 rfl rfl rfl 31 (by decide) (hts _ tw_1156) (fun _ h9 => h9) dX12_alikeAt_28 rfl (fun v28 k_v28 f_a0_X12_31 => ?_)
          refine lv_iload_n hx hb dX12_alikeAt_31 rfl (lv_at hl 3 rfl) ?_
          refine t_zald hx hb hw k_v28 rfl rfl (by omega) (show p4_l3.toInt < 7 by omega) dX12_alikeAt_32 (fun v32 r_v32 s_v32 q_v32 => ?_)
          have l_v32 := i32_lo v32
          have h_v32 := i32_hi v32
          refine lv_if_eq (tgt := 86) hx hb dX12_alikeAt_33 (by decide) (fun c_33 => ?_) (fun c_33 => ?_)
          · simp only [fa_lt, fa_le, fa_eq, li_0] at c_33
            exact J86 _ _ _ w18 hw hM f_a0_X12_2 (lv_sub hl [0, 1, 2, 3, 4, 5] rfl)
          · simp only [fa_lt, fa_le, fa_eq, li_0] at c_33
            refine lv_iload hx hb dX12_alikeAt_36 (lv_at hl 4 rfl) ?_
            refine lv_aload_n hx hb dX12_alikeAt_38 rfl (lv_at hl 0 rfl) ?_
            refine t_getk (ci := 12) (C := RX12) (T := TX12) (N := 38) hx hb hts iX12 hown hw rfl 31 (by decide) (hts _ tw_1156) (fun _ h9 => h9) dX12_alikeAt_39 f_a0_X12_31 ?_
            refine lv_iload hx hb dX12_alikeAt_42 (lv_at hl 5 rfl) ?_
            refine t_zald hx hb hw k_v28 rfl rfl (by omega) (show p18_l5.toInt < 7 by omega) dX12_alikeAt_44 (fun v44 r_v44 s_v44 q_v44 => ?_)
            have l_v44 := i32_lo v44
            have h_v44 := i32_hi v44
            have J77 : ∀ (H : Heap) (locs : List Loc) (ls : Array Slot) (w77 : va_W) (p77_s0 : Int32), tW (dC, dI) tys κ B A s w77 H locs → Sm [] [] κ ws w77 → 0 ≤ p77_s0.toInt → p77_s0.toInt ≤ 1 → fld w77 a0 12 2 (.int v6) → fld w77 a0 12 31 (.ref v28) → lv_has ls 6 [(0, .ref a0), (1, .int a1), (2, .int p4_l2), (3, .int p4_l3), (4, .int p18_l4), (5, .int p18_l5)] → W p l e (headSpec (ws_u yX12_alikeAt cX12_alikeAt 6 (some .int)) ({ frames := 1, cells := 0, slots := 0, locals := 21 })).room s m ([.ref a0, .int a1] : List Value).toArray below meth c H locs 0 0 QQ (F0 m 77 ls [.int p77_s0, .int p18_l4]) := by
              intro H locs ls w77 p77_s0 hw hM l_p77_s0 h_p77_s0 f_a0_X12_2 f_a0_X12_31 hl
              refine lv_iadd hx hb dX12_alikeAt_77 ?_
              refine lv_topi (fun v77 e_v77 => ?_)
              have l_v77 := i32_lo v77
              have h_v77 := i32_hi v77
              refine lv_istore (lv' := [(4, .int v77), (0, .ref a0), (1, .int a1), (2, .int p4_l2), (3, .int p4_l3), (5, .int p18_l5)]) hx hb dX12_alikeAt_78 hl (by decide) rfl (fun ls hl => ?_)
              obtain ⟨v80, e_v80⟩ : ∃ y : Int32, y = p18_l5 + 1 := ⟨_, rfl⟩
              refine lv_iinc (v := v80) (lv' := [(5, .int v80), (4, .int v77), (0, .ref a0), (1, .int a1), (2, .int p4_l2), (3, .int p4_l3)]) hx hb dX12_alikeAt_80 hl (k := 5) rfl e_v80.symm (by decide) rfl (fun ls hl => ?_)
              have e_v80 : v80.toInt = p18_l5.toInt + 1 := ad_i e_v80 rfl li_1 (by omega) (by omega)
              refine lv_goto (tgt := 18) hx hb dX12_alikeAt_83 (by decide) ?_
              exact ih_18 _ _ _ _ (by omega) ⟨w77, v77, v80, hw, hM, (by omega), (by omega), (by omega), (by omega), f_a0_X12_2, (lv_sub hl [2, 3, 4, 5, 1, 0] rfl), rfl⟩
            have J76 : ∀ (H : Heap) (locs : List Loc) (ls : Array Slot) (w76 : va_W), tW (dC, dI) tys κ B A s w76 H locs → Sm [] [] κ ws w76 → fld w76 a0 12 2 (.int v6) → fld w76 a0 12 31 (.ref v28) → lv_has ls 6 [(0, .ref a0), (1, .int a1), (2, .int p4_l2), (3, .int p4_l3), (4, .int p18_l4), (5, .int p18_l5)] → W p l e (headSpec (ws_u yX12_alikeAt cX12_alikeAt 6 (some .int)) ({ frames := 1, cells := 0, slots := 0, locals := 21 })).room s m ([.ref a0, .int a1] : List Value).toArray below meth c H locs 0 0 QQ (F0 m 76 ls [.int p18_l4]) := by
              intro H locs ls w76 hw hM f_a0_X12_2 f_a0_X12_31 hl
              refine lv_iconst (v := 0) hx hb dX12_alikeAt_76 (by decide) ?_
              exact J77 _ _ _ w76 0 hw hM (by decide) (by decide) f_a0_X12_2 f_a0_X12_31 (lv_sub hl [0, 1, 2, 3, 4, 5] rfl)
            refine lv_if_eq (tgt := 76) hx hb dX12_alikeAt_45 (by decide) (fun c_45 => ?_) (fun c_45 => ?_)
            · simp only [fa_lt, fa_le, fa_eq, li_0] at c_45
              exact J76 _ _ _ w18 hw hM f_a0_X12_2 f_a0_X12_31 (lv_sub hl [0, 1, 2, 3, 4, 5] rfl)
            · simp only [fa_lt, fa_le, fa_eq, li_0] at c_45
              refine lv_aload_n hx hb dX12_alikeAt_48 rfl (lv_at hl 0 rfl) ?_
              refine t_getr (k1 := 71) (ci := 12) (C := RX12) (T := TX12) (N := 38) hx hb hts iX12 hown hw k_a0 rfl rfl rfl 32 (by decide) (hts _ tw_1157) (fun _ h9 => h9) dX12_alikeAt_49 rfl (fun v49 k_v49 f_a0_X12_32 => ?_)
              refine lv_iload_n hx hb dX12_alikeAt_52 rfl (lv_at hl 3 rfl) ?_
              refine lv_iload_n hx hb dX12_alikeAt_53 rfl (lv_at hl 1 rfl) ?_
              refine t_calli (va_runS (As := [.int p4_l3, .int a1]) (rest := [.ref v49, .int p18_l4]) ⟨hx, hb, hml, hown, hts⟩ (t_X12_spot l dC dI tys κ B w18 hw.2.2.2.2 p4_l3 (by omega) (by omega) a1 (by omega) (by omega) H.size) (va_cwS 2 hts (gUS tw_1712 tw_1713 tw_13 tw_1714) rfl rfl rfl (by decide +kernel) ⟨(Nat.le_of_ble_eq_true rfl), (Nat.le_of_ble_eq_true rfl)⟩) ⟨cPre.blind, cPre.use hw.2.1 hw.1 hw.2.2.1 hE⟩ rfl rfl hl.1 rfl (lv_room (Nat.le_of_ble_eq_true rfl)) dX12_alikeAt_54 ⟨(Nat.le_of_ble_eq_true rfl), (Nat.le_of_ble_eq_true rfl)⟩) hw hA (fun _ _ h => h.2.2.1) (fun v54 w_1 H locs hp hw => ?_)
              obtain ⟨l_v54, h_v54, _, hm⟩ := hp
              have hM := hM.trans hm (by decide) (by decide)
              have f_a0_X12_2 := hm.1 _ _ _ _ f_a0_X12_2 (by decide)
              have f_a0_X12_31 := hm.1 _ _ _ _ f_a0_X12_31 (by decide)
              have f_a0_X12_32 := hm.1 _ _ _ _ f_a0_X12_32 (by decide)
              refine t_iald hx hb hw k_v49 rfl rfl (by omega) (show v54.toInt < 427 by omega) dX12_alikeAt_57 (fun v57 r_v57 s_v57 q_v57 => ?_)
              have l_v57 := i32_lo v57
              have h_v57 := i32_hi v57
              refine lv_aload_n hx hb dX12_alikeAt_58 rfl (lv_at hl 0 rfl) ?_
              refine t_getk (ci := 12) (C := RX12) (T := TX12) (N := 38) hx hb hts iX12 hown hw rfl 32 (by decide) (hts _ tw_1157) (fun _ h9 => h9) dX12_alikeAt_59 f_a0_X12_32 ?_
              refine lv_iload hx hb dX12_alikeAt_62 (lv_at hl 5 rfl) ?_
              refine lv_iload_n hx hb dX12_alikeAt_64 rfl (lv_at hl 1 rfl) ?_
              refine t_calli (va_runS (As := [.int p18_l5, .int a1]) (rest := [.ref v49, .int v57, .int p18_l4]) ⟨hx, hb, hml, hown, hts⟩ (t_X12_spot l dC dI tys κ B w_1 hw.2.2.2.2 p18_l5 (by omega) (by omega) a1 (by omega) (by omega) H.size) (va_cwS 2 hts (gUS tw_1712 tw_1713 tw_13 tw_1714) rfl rfl rfl (by decide +kernel) ⟨(Nat.le_of_ble_eq_true rfl), (Nat.le_of_ble_eq_true rfl)⟩) ⟨cPre.blind, cPre.use hw.2.1 hw.1 hw.2.2.1 hE⟩ rfl rfl hl.1 rfl (lv_room (Nat.le_of_ble_eq_true rfl)) dX12_alikeAt_65 ⟨(Nat.le_of_ble_eq_true rfl), (Nat.le_of_ble_eq_true rfl)⟩) hw hA (fun _ _ h => h.2.2.1) (fun v65 w_2 H locs hp hw => ?_)
              obtain ⟨l_v65, h_v65, _, hm⟩ := hp
              have hM := hM.trans hm (by decide) (by decide)
              have f_a0_X12_2 := hm.1 _ _ _ _ f_a0_X12_2 (by decide)
              have f_a0_X12_31 := hm.1 _ _ _ _ f_a0_X12_31 (by decide)
              have f_a0_X12_32 := hm.1 _ _ _ _ f_a0_X12_32 (by decide)
              refine t_iald hx hb hw k_v49 rfl rfl (by omega) (show v65.toInt < 427 by omega) dX12_alikeAt_68 (fun v68 r_v68 s_v68 q_v68 => ?_)
              have l_v68 := i32_lo v68
              have h_v68 := i32_hi v68
              refine lv_icmp_ne (tgt := 76) hx hb dX12_alikeAt_69 (by decide) (fun c_69 => ?_) (fun c_69 => ?_)
              · simp only [fa_lt, fa_le, fa_eq] at c_69
                exact J76 _ _ _ w_2 hw hM f_a0_X12_2 f_a0_X12_31 (lv_sub hl [0, 1, 2, 3, 4, 5] rfl)
              · simp only [fa_lt, fa_le, fa_eq] at c_69
                refine lv_iconst (v := 1) hx hb dX12_alikeAt_72 (by decide) ?_
                refine lv_goto (tgt := 77) hx hb dX12_alikeAt_73 (by decide) ?_
                exact J77 _ _ _ w_2 1 hw hM (by decide) (by decide) f_a0_X12_2 f_a0_X12_31 (lv_sub hl [0, 1, 2, 3, 4, 5] rfl)
      exact J18 _ _ _ _ ⟨w4, 0, 0, hw, hM, (by decide), (by decide), (by decide), (by decide), f_a0_X12_2, (lv_sub hl [2, 3, 4, 5, 1, 0] rfl), rfl⟩
  exact J4 _ _ _ _ ⟨ws, 0, 0, hw, hM, (by decide), (by decide), (by decide), (by decide), (lv_sub hl [2, 3, 1, 0] rfl), rfl⟩
set_option maxHeartbeats 4000000 in
set_option maxRecDepth 100000 in
theorem t_X12_fails (l : Launch) (dC : Nat → ClassId) (dI : Nat → Nat → Nat) (tys : List (ClassId × FieldType)) (κ : tK) (B : Nat) (ws : va_W) (hT : Ty κ tys B ws) (a0 : Nat) (k_a0 : κ a0 = some 12) (a1 : Int32) (l_a1 : 0 ≤ a1.toInt) (h_a1 : a1.toInt ≤ 4) (a2 : Int32) (l_a2 : 0 ≤ a2.toInt) (h_a2 : a2.toInt ≤ 401) (sz : Nat) : Met l yX12_fails (ws_u yX12_fails cX12_fails 3 (some .boolean)) ({ frames := 0, cells := 0, slots := 0, locals := 0 }) (va_Pc [.ref a0, .int a1, .int a2] (cPre (dC, dI) tys ws sz)) (va_Qi (fun (r : Int32) (w : va_W) => 0 ≤ r.toInt ∧ r.toInt ≤ 0 ∧ Ty κ tys B w ∧ Sm [(12, 9)] [] κ ws w) (fun w t => cPost (dC, dI) tys w (va_A ws sz) t) (va_A ws sz)) 0 0 (va_A ws sz) := by
  refine Met.ofW (cc := cX12_fails) (maxL := 3) (ret := (some .boolean)) (by decide) rfl ?_
  intro p e s m args below meth c s₁ B0 hml hv
  obtain ⟨rfl, hsz, hP, hK, hD0, hE⟩ := hv
  have hx := B0.exec
  have hb := B0.bytes
  have hr := B0.returns
  have hts0 := atoms_spec (ws := ws_u yX12_fails cX12_fails 3 (some .boolean)) B0.pre
  have hts : ∀ w ∈ gT, w.before _ s = true := fun w h => hts0 w (List.mem_cons_of_mem _ h)
  have hown : s.vm.findClass RX12 = some m.cls := findClass_of_methodNamed B0.named
  have hlocks := B0.notSynchronized
  subst hsz
  have hD := hD0.self (sz := s.heap.size)
  generalize hAe : va_A ws s.heap.size = A at hD ⊢
  have hA : ∀ q : Nat, s.heap.size ≤ q → A q := fun q h => by rw [← hAe]; exact Or.inr h
  have hw : tW (dC, dI) tys κ B A s ws s.heap [] := ⟨hK, hP, hD, va_S.rf, hT⟩
  have hM : Sm [(12, 9)] [] κ ws ws := Sm.rf
  clear hP hK hD hD0 hts0
  have hl := lv_entry ([.ref a0, .int a1, .int a2]) (n := 3) (Nat.le_of_ble_eq_true rfl)
  rw [lg_entry_eq]
  generalize (lg_sl ([.ref a0, .int a1, .int a2]) ++ List.replicate (3 - (lg_sl ([.ref a0, .int a1, .int a2])).length) Slot.unset).toArray = ls at hl ⊢
  have hl : lv_has ls 3 [(0, .ref a0), (1, .int a1), (2, .int a2)] := hl
  refine t_start (fun QQ hQ => ?_)
  refine lv_aload_n hx hb dX12_fails_0 rfl (lv_at hl 0 rfl) ?_
  refine t_geti (ci := 12) (C := RX12) (T := TX12) (N := 38) hx hb hts iX12 hown hw k_a0 rfl rfl rfl 9 (by decide) (hts _ tw_1134) (fun _ h9 => h9) dX12_fails_1 rfl (fun v1 l_v1 h_v1 f_a0_X12_9 => ?_)
  have l_v1 : (-2147483648) ≤ v1.toInt := l_v1
  have h_v1 : v1.toInt ≤ 2147483647 := h_v1
  refine lv_if_ne (tgt := 19) hx hb dX12_fails_4 (by decide) (fun c_4 => ?_) (fun c_4 => ?_)
  · simp only [fa_lt, fa_le, fa_eq, li_0] at c_4
    refine lv_iconst (v := 0) hx hb dX12_fails_19 (by decide) ?_
    rw [hQ]
    refine W.widen (k := 0) (n := 0) (Nat.le_refl _) (Nat.le_refl _) ?_
    exact W.zret (v := 0) hx hb hr rfl (fun t ht hW => ⟨⟨0, ws, rfl, ⟨(by decide), (by decide), hw.2.2.2.2, hM⟩, by rw [ht]; exact hw.2.1, va_K.moved hW.alike hw.1, hw.2.2.1⟩, hw.2.2.2.1.F ht⟩) hw.2.2.2.1.2.2 dX12_fails_20
  · simp only [fa_lt, fa_le, fa_eq, li_0] at c_4
    refine lv_aload_n hx hb dX12_fails_7 rfl (lv_at hl 0 rfl) ?_
    refine lv_iconst (v := 1) hx hb dX12_fails_8 (by decide) ?_
    refine lv_bipush (v := 8) hx hb dX12_fails_9 (by decide) ?_
    refine lv_iload_n hx hb dX12_fails_11 rfl (lv_at hl 2 rfl) ?_
    refine lv_imul hx hb dX12_fails_12 ?_
    refine lv_topi (fun v12 e_v12 => ?_)
    have e_v12 : v12.toInt = 8 * a2.toInt := ml_i e_v12 li_8 rfl (by omega) (by omega)
    refine lv_iadd hx hb dX12_fails_13 ?_
    refine lv_topi (fun v13 e_v13 => ?_)
    have e_v13 : v13.toInt = 1 + v12.toInt := ad_i e_v13 li_1 rfl (by omega) (by omega)
    refine lv_iload_n hx hb dX12_fails_14 rfl (lv_at hl 1 rfl) ?_
    refine lv_iadd hx hb dX12_fails_15 ?_
    refine lv_topi (fun v15 e_v15 => ?_)
    have e_v15 : v15.toInt = v13.toInt + a1.toInt := ad_i e_v15 rfl rfl (by omega) (by omega)
    refine t_put (ci := 12) (C := RX12) (T := TX12) (N := 38) (v := .int v15) hx hb hts iX12 tyX12 tyX12_ok nmX12 hown hw k_a0 rfl rfl rfl 9 (by decide) (hts _ tw_1134) (fun _ h9 => h9) rfl (tyX12_ok 9 (by decide)) rfl rfl (okV.int rfl (by omega) (by omega)) dX12_fails_16 (fun w_1 H locs hw u => ?_)
    have hM := hM.up1 u (by decide)
    have f_a0_X12_9 := u.2.2
    refine lv_iconst (v := 0) hx hb dX12_fails_19 (by decide) ?_
    rw [hQ]
    refine W.widen (k := 0) (n := 0) (Nat.le_refl _) (Nat.le_refl _) ?_
    exact W.zret (v := 0) hx hb hr rfl (fun t ht hW => ⟨⟨0, w_1, rfl, ⟨(by decide), (by decide), hw.2.2.2.2, hM⟩, by rw [ht]; exact hw.2.1, va_K.moved hW.alike hw.1, hw.2.2.1⟩, hw.2.2.2.1.F ht⟩) hw.2.2.2.1.2.2 dX12_fails_20
set_option maxHeartbeats 4000000 in
set_option maxRecDepth 100000 in
theorem t_X12_isDigit (l : Launch) (dC : Nat → ClassId) (dI : Nat → Nat → Nat) (tys : List (ClassId × FieldType)) (κ : tK) (B : Nat) (ws : va_W) (hT : Ty κ tys B ws) (a0 : Nat) (k_a0 : κ a0 = some 12) (a1 : Int32) (l_a1 : 0 ≤ a1.toInt) (h_a1 : a1.toInt ≤ 401) (f0 : Int32) (l_f0 : 0 ≤ f0.toInt) (h_f0 : f0.toInt ≤ 400) (f_a0_X12_1 : fld ws a0 12 1 (.int f0)) (sz : Nat) : Met l yX12_isDigit (ws_u yX12_isDigit cX12_isDigit 2 (some .boolean)) ({ frames := 0, cells := 0, slots := 0, locals := 0 }) (va_Pc [.ref a0, .int a1] (cPre (dC, dI) tys ws sz)) (va_Qi (fun (r : Int32) (w : va_W) => 0 ≤ r.toInt ∧ r.toInt ≤ 1 ∧ Ty κ tys B w ∧ Sm [] [] κ ws w ∧ (r.toInt = 0 ∨ a1.toInt ≤ 399) ∧ (r.toInt = 0 ∨ a1.toInt < f0.toInt)) (fun w t => cPost (dC, dI) tys w (va_A ws sz) t) (va_A ws sz)) 0 0 (va_A ws sz) := by
  refine Met.ofW (cc := cX12_isDigit) (maxL := 2) (ret := (some .boolean)) (by decide) rfl ?_
  intro p e s m args below meth c s₁ B0 hml hv
  obtain ⟨rfl, hsz, hP, hK, hD0, hE⟩ := hv
  have hx := B0.exec
  have hb := B0.bytes
  have hr := B0.returns
  have hts0 := atoms_spec (ws := ws_u yX12_isDigit cX12_isDigit 2 (some .boolean)) B0.pre
  have hts : ∀ w ∈ gT, w.before _ s = true := fun w h => hts0 w (List.mem_cons_of_mem _ h)
  have hown : s.vm.findClass RX12 = some m.cls := findClass_of_methodNamed B0.named
  have hlocks := B0.notSynchronized
  subst hsz
  have hD := hD0.self (sz := s.heap.size)
  generalize hAe : va_A ws s.heap.size = A at hD ⊢
  have hA : ∀ q : Nat, s.heap.size ≤ q → A q := fun q h => by rw [← hAe]; exact Or.inr h
  have hw : tW (dC, dI) tys κ B A s ws s.heap [] := ⟨hK, hP, hD, va_S.rf, hT⟩
  have hM : Sm [] [] κ ws ws := Sm.rf
  clear hP hK hD hD0 hts0
  have hl := lv_entry ([.ref a0, .int a1]) (n := 2) (Nat.le_of_ble_eq_true rfl)
  rw [lg_entry_eq]
  generalize (lg_sl ([.ref a0, .int a1]) ++ List.replicate (2 - (lg_sl ([.ref a0, .int a1])).length) Slot.unset).toArray = ls at hl ⊢
  have hl : lv_has ls 2 [(0, .ref a0), (1, .int a1)] := hl
  refine t_start (fun QQ hQ => ?_)
  refine lv_iload_n hx hb dX12_isDigit_0 rfl (lv_at hl 1 rfl) ?_
  refine lv_aload_n hx hb dX12_isDigit_1 rfl (lv_at hl 0 rfl) ?_
  refine t_getk (ci := 12) (C := RX12) (T := TX12) (N := 38) hx hb hts iX12 hown hw rfl 1 (by decide) (hts _ tw_1126) (fun _ h9 => h9) dX12_isDigit_2 f_a0_X12_1 ?_
  refine lv_icmp_ge (tgt := 34) hx hb dX12_isDigit_5 (by decide) (fun c_5 => ?_) (fun c_5 => ?_)
  · simp only [fa_lt, fa_le, fa_eq] at c_5
    refine lv_iconst (v := 0) hx hb dX12_isDigit_34 (by decide) ?_
    rw [hQ]
    refine W.widen (k := 0) (n := 0) (Nat.le_refl _) (Nat.le_refl _) ?_
    exact W.zret (v := 0) hx hb hr rfl (fun t ht hW => ⟨⟨0, ws, rfl, ⟨(by decide), (by decide), hw.2.2.2.2, hM, (by have := li_0; omega), (by have := li_0; omega)⟩, by rw [ht]; exact hw.2.1, va_K.moved hW.alike hw.1, hw.2.2.1⟩, hw.2.2.2.1.F ht⟩) hw.2.2.2.1.2.2 dX12_isDigit_35
  · simp only [fa_lt, fa_le, fa_eq] at c_5
    refine lv_aload_n hx hb dX12_isDigit_8 rfl (lv_at hl 0 rfl) ?_
    refine t_getr (k1 := 54) (ci := 12) (C := RX12) (T := TX12) (N := 38) hx hb hts iX12 hown hw k_a0 rfl rfl rfl 0 (by decide) (hts _ tw_1125) (fun _ h9 => h9) dX12_isDigit_9 rfl (fun v9 k_v9 f_a0_X12_0 => ?_)
    refine lv_iload_n hx hb dX12_isDigit_12 rfl (lv_at hl 1 rfl) ?_
    refine t_bald hx hb hw k_v9 rfl rfl (by omega) (show a1.toInt < 400 by omega) dX12_isDigit_13 (fun v13 r_v13 s_v13 q_v13 => ?_)
    have l_v13 := i32_lo v13
    have h_v13 := i32_hi v13
    refine lv_bipush (v := 48) hx hb dX12_isDigit_14 (by decide) ?_
    refine lv_icmp_lt (tgt := 34) hx hb dX12_isDigit_16 (by decide) (fun c_16 => ?_) (fun c_16 => ?_)
    · simp only [fa_lt, fa_le, fa_eq, li_48] at c_16
      refine lv_iconst (v := 0) hx hb dX12_isDigit_34 (by decide) ?_
      rw [hQ]
      refine W.widen (k := 0) (n := 0) (Nat.le_refl _) (Nat.le_refl _) ?_
      exact W.zret (v := 0) hx hb hr rfl (fun t ht hW => ⟨⟨0, ws, rfl, ⟨(by decide), (by decide), hw.2.2.2.2, hM, (by have := li_0; omega), (by have := li_0; omega)⟩, by rw [ht]; exact hw.2.1, va_K.moved hW.alike hw.1, hw.2.2.1⟩, hw.2.2.2.1.F ht⟩) hw.2.2.2.1.2.2 dX12_isDigit_35
    · simp only [fa_lt, fa_le, fa_eq, li_48] at c_16
      refine lv_aload_n hx hb dX12_isDigit_19 rfl (lv_at hl 0 rfl) ?_
      refine t_getk (ci := 12) (C := RX12) (T := TX12) (N := 38) hx hb hts iX12 hown hw rfl 0 (by decide) (hts _ tw_1125) (fun _ h9 => h9) dX12_isDigit_20 f_a0_X12_0 ?_
      refine lv_iload_n hx hb dX12_isDigit_23 rfl (lv_at hl 1 rfl) ?_
      refine t_bald hx hb hw k_v9 rfl rfl (by omega) (show a1.toInt < 400 by omega) dX12_isDigit_24 (fun v24 r_v24 s_v24 q_v24 => ?_)
      have l_v24 := i32_lo v24
      have h_v24 := i32_hi v24
      refine lv_bipush (v := 57) hx hb dX12_isDigit_25 (by decide) ?_
      refine lv_icmp_gt (tgt := 34) hx hb dX12_isDigit_27 (by decide) (fun c_27 => ?_) (fun c_27 => ?_)
      · simp only [fa_lt, fa_le, fa_eq, li_57] at c_27
        refine lv_iconst (v := 0) hx hb dX12_isDigit_34 (by decide) ?_
        rw [hQ]
        refine W.widen (k := 0) (n := 0) (Nat.le_refl _) (Nat.le_refl _) ?_
        exact W.zret (v := 0) hx hb hr rfl (fun t ht hW => ⟨⟨0, ws, rfl, ⟨(by decide), (by decide), hw.2.2.2.2, hM, (by have := li_0; omega), (by have := li_0; omega)⟩, by rw [ht]; exact hw.2.1, va_K.moved hW.alike hw.1, hw.2.2.1⟩, hw.2.2.2.1.F ht⟩) hw.2.2.2.1.2.2 dX12_isDigit_35
      · simp only [fa_lt, fa_le, fa_eq, li_57] at c_27
        refine lv_iconst (v := 1) hx hb dX12_isDigit_30 (by decide) ?_
        refine lv_goto (tgt := 35) hx hb dX12_isDigit_31 (by decide) ?_
        rw [hQ]
        refine W.widen (k := 0) (n := 0) (Nat.le_refl _) (Nat.le_refl _) ?_
        exact W.zret (v := 1) hx hb hr rfl (fun t ht hW => ⟨⟨1, ws, rfl, ⟨(by decide), (by decide), hw.2.2.2.2, hM, (by have := li_1; omega), (by have := li_1; omega)⟩, by rw [ht]; exact hw.2.1, va_K.moved hW.alike hw.1, hw.2.2.1⟩, hw.2.2.2.1.F ht⟩) hw.2.2.2.1.2.2 dX12_isDigit_35
set_option maxHeartbeats 4000000 in
set_option maxRecDepth 100000 in
theorem t_X12_see (l : Launch) (dC : Nat → ClassId) (dI : Nat → Nat → Nat) (tys : List (ClassId × FieldType)) (κ : tK) (B : Nat) (ws : va_W) (hT : Ty κ tys B ws) (a0 : Nat) (k_a0 : κ a0 = some 12) (f0 : Int32) (l_f0 : 0 ≤ f0.toInt) (h_f0 : f0.toInt ≤ 401) (f_a0_X12_8 : fld ws a0 12 8 (.int f0)) (f1 : Int32) (l_f1 : 0 ≤ f1.toInt) (h_f1 : f1.toInt ≤ 400) (f_a0_X12_1 : fld ws a0 12 1 (.int f1)) (sz : Nat) : Met l yX12_see (ws_u yX12_see cX12_see 1 (some .int)) ({ frames := 0, cells := 0, slots := 0, locals := 0 }) (va_Pc [.ref a0] (cPre (dC, dI) tys ws sz)) (va_Qi (fun (r : Int32) (w : va_W) => (-1) ≤ r.toInt ∧ r.toInt ≤ 255 ∧ Ty κ tys B w ∧ Sm [(12, 8)] [] κ ws w ∧ (∃ (xn : Int32), 0 ≤ xn.toInt ∧ xn.toInt ≤ 401 ∧ fld w a0 12 8 (.int xn) ∧ f0.toInt ≤ xn.toInt ∧ (xn.toInt = f0.toInt ∨ xn.toInt ≤ f1.toInt) ∧ (r.toInt = -1 ∨ xn.toInt < f1.toInt))) (fun w t => cPost (dC, dI) tys w (va_A ws sz) t) (va_A ws sz)) 0 0 (va_A ws sz) := by
  refine Met.ofW (cc := cX12_see) (maxL := 1) (ret := (some .int)) (by decide) rfl ?_
  intro p e s m args below meth c s₁ B0 hml hv
  obtain ⟨rfl, hsz, hP, hK, hD0, hE⟩ := hv
  have hx := B0.exec
  have hb := B0.bytes
  have hr := B0.returns
  have hts0 := atoms_spec (ws := ws_u yX12_see cX12_see 1 (some .int)) B0.pre
  have hts : ∀ w ∈ gT, w.before _ s = true := fun w h => hts0 w (List.mem_cons_of_mem _ h)
  have hown : s.vm.findClass RX12 = some m.cls := findClass_of_methodNamed B0.named
  have hlocks := B0.notSynchronized
  subst hsz
  have hD := hD0.self (sz := s.heap.size)
  generalize hAe : va_A ws s.heap.size = A at hD ⊢
  have hA : ∀ q : Nat, s.heap.size ≤ q → A q := fun q h => by rw [← hAe]; exact Or.inr h
  have hw : tW (dC, dI) tys κ B A s ws s.heap [] := ⟨hK, hP, hD, va_S.rf, hT⟩
  have hM : Sm [(12, 8)] [] κ ws ws := Sm.rf
  clear hP hK hD hD0 hts0
  have hl := lv_entry ([.ref a0]) (n := 1) (Nat.le_of_ble_eq_true rfl)
  rw [lg_entry_eq]
  generalize (lg_sl ([.ref a0]) ++ List.replicate (1 - (lg_sl ([.ref a0])).length) Slot.unset).toArray = ls at hl ⊢
  have hl : lv_has ls 1 [(0, .ref a0)] := hl
  refine t_start (fun QQ hQ => ?_)
  have J0 : ∀ (n : Nat) (H : Heap) (locs : List Loc) (ls : Array Slot), (∃ (w0 : va_W) (p0_m_a0_X12_8 : Int32), tW (dC, dI) tys κ B A s w0 H locs ∧ Sm [(12, 8)] [] κ ws w0 ∧ 0 ≤ p0_m_a0_X12_8.toInt ∧ p0_m_a0_X12_8.toInt ≤ 401 ∧ fld w0 a0 12 1 (.int f1) ∧ fld w0 a0 12 8 (.int p0_m_a0_X12_8) ∧ f0.toInt ≤ p0_m_a0_X12_8.toInt ∧ (p0_m_a0_X12_8.toInt = f0.toInt ∨ p0_m_a0_X12_8.toInt ≤ f1.toInt) ∧ lv_has ls 1 [(0, .ref a0)] ∧ (401 - p0_m_a0_X12_8.toInt).toNat = n) → W p l e (headSpec (ws_u yX12_see cX12_see 1 (some .int)) ({ frames := 0, cells := 0, slots := 0, locals := 0 })).room s m ([.ref a0] : List Value).toArray below meth c H locs 0 0 QQ (F0 m 0 ls []) := by
    refine loopT _ ?_
    intro n_0 H locs ls hI ih_0
    obtain ⟨w0, p0_m_a0_X12_8, hw, hM, l_p0_m_a0_X12_8, h_p0_m_a0_X12_8, f_a0_X12_1, f_a0_X12_8, li_0_0, li_0_1, hl, hn_0⟩ := hI
    refine lv_aload_n hx hb dX12_see_0 rfl (lv_at hl 0 rfl) ?_
    refine t_getk (ci := 12) (C := RX12) (T := TX12) (N := 38) hx hb hts iX12 hown hw rfl 8 (by decide) (hts _ tw_1133) (fun _ h9 => h9) dX12_see_1 f_a0_X12_8 ?_
    refine lv_aload_n hx hb dX12_see_4 rfl (lv_at hl 0 rfl) ?_
    refine t_getk (ci := 12) (C := RX12) (T := TX12) (N := 38) hx hb hts iX12 hown hw rfl 1 (by decide) (hts _ tw_1126) (fun _ h9 => h9) dX12_see_5 f_a0_X12_1 ?_
    refine lv_icmp_ge (tgt := 38) hx hb dX12_see_8 (by decide) (fun c_8 => ?_) (fun c_8 => ?_)
    · simp only [fa_lt, fa_le, fa_eq] at c_8
      refine lv_aload_n hx hb dX12_see_38 rfl (lv_at hl 0 rfl) ?_
      refine t_getk (ci := 12) (C := RX12) (T := TX12) (N := 38) hx hb hts iX12 hown hw rfl 8 (by decide) (hts _ tw_1133) (fun _ h9 => h9) dX12_see_39 f_a0_X12_8 ?_
      refine lv_aload_n hx hb dX12_see_42 rfl (lv_at hl 0 rfl) ?_
      refine t_getk (ci := 12) (C := RX12) (T := TX12) (N := 38) hx hb hts iX12 hown hw rfl 1 (by decide) (hts _ tw_1126) (fun _ h9 => h9) dX12_see_43 f_a0_X12_1 ?_
      refine lv_icmp_ge (tgt := 65) hx hb dX12_see_46 (by decide) (fun c_46 => ?_) (fun c_46 => ?_)
      · simp only [fa_lt, fa_le, fa_eq] at c_46
        refine lv_iconst (v := (-1)) hx hb dX12_see_65 (by decide) ?_
        rw [hQ]
        refine W.widen (k := 0) (n := 0) (Nat.le_refl _) (Nat.le_refl _) ?_
        exact W.iret (v := (-1)) hx hb hr (fun t ht hW => ⟨⟨(-1), w0, rfl, ⟨(by decide), (by decide), hw.2.2.2.2, hM, ⟨p0_m_a0_X12_8, (by omega), (by omega), f_a0_X12_8, (by have := li_m1; omega)⟩⟩, by rw [ht]; exact hw.2.1, va_K.moved hW.alike hw.1, hw.2.2.1⟩, hw.2.2.2.1.F ht⟩) hw.2.2.2.1.2.2 dX12_see_66
      · simp only [fa_lt, fa_le, fa_eq] at c_46
        refine lv_aload_n hx hb dX12_see_49 rfl (lv_at hl 0 rfl) ?_
        refine t_getr (k1 := 54) (ci := 12) (C := RX12) (T := TX12) (N := 38) hx hb hts iX12 hown hw k_a0 rfl rfl rfl 0 (by decide) (hts _ tw_1125) (fun _ h9 => h9) dX12_see_50 rfl (fun v50 k_v50 f_a0_X12_0 => ?_)
        refine lv_aload_n hx hb dX12_see_53 rfl (lv_at hl 0 rfl) ?_
        refine t_getk (ci := 12) (C := RX12) (T := TX12) (N := 38) hx hb hts iX12 hown hw rfl 8 (by decide) (hts _ tw_1133) (fun _ h9 => h9) dX12_see_54 f_a0_X12_8 ?_
        refine t_bald hx hb hw k_v50 rfl rfl (by omega) (show p0_m_a0_X12_8.toInt < 400 by omega) dX12_see_57 (fun v57 r_v57 s_v57 q_v57 => ?_)
        have l_v57 := i32_lo v57
        have h_v57 := i32_hi v57
        refine lv_sipush (v := 255) hx hb dX12_see_58 (by decide) ?_
        refine lv_iand hx hb dX12_see_61 ?_
        refine lv_topi (fun v61 e_v61 => ?_)
        have ⟨l_v61, h_v61⟩ : 0 ≤ v61.toInt ∧ v61.toInt ≤ 255 := and_r e_v61 li_255 (by decide)
        refine lv_goto (tgt := 66) hx hb dX12_see_62 (by decide) ?_
        rw [hQ]
        refine W.widen (k := 0) (n := 0) (Nat.le_refl _) (Nat.le_refl _) ?_
        exact W.iret (v := v61) hx hb hr (fun t ht hW => ⟨⟨v61, w0, rfl, ⟨(by omega), (by omega), hw.2.2.2.2, hM, ⟨p0_m_a0_X12_8, (by omega), (by omega), f_a0_X12_8, (by omega)⟩⟩, by rw [ht]; exact hw.2.1, va_K.moved hW.alike hw.1, hw.2.2.1⟩, hw.2.2.2.1.F ht⟩) hw.2.2.2.1.2.2 dX12_see_66
    · simp only [fa_lt, fa_le, fa_eq] at c_8
      refine lv_aload_n hx hb dX12_see_11 rfl (lv_at hl 0 rfl) ?_
      refine t_getr (k1 := 54) (ci := 12) (C := RX12) (T := TX12) (N := 38) hx hb hts iX12 hown hw k_a0 rfl rfl rfl 0 (by decide) (hts _ tw_1125) (fun _ h9 => h9) dX12_see_12 rfl (fun v12 k_v12 f_a0_X12_0 => ?_)
      refine lv_aload_n hx hb dX12_see_15 rfl (lv_at hl 0 rfl) ?_
      refine t_getk (ci := 12) (C := RX12) (T := TX12) (N := 38) hx hb hts iX12 hown hw rfl 8 (by decide) (hts _ tw_1133) (fun _ h9 => h9) dX12_see_16 f_a0_X12_8 ?_
      refine t_bald hx hb hw k_v12 rfl rfl (by omega) (show p0_m_a0_X12_8.toInt < 400 by omega) dX12_see_19 (fun v19 r_v19 s_v19 q_v19 => ?_)
      have l_v19 := i32_lo v19
      have h_v19 := i32_hi v19
      refine lv_bipush (v := 32) hx hb dX12_see_20 (by decide) ?_
      refine lv_icmp_ne (tgt := 38) hx hb dX12_see_22 (by decide) (fun c_22 => ?_) (fun c_22 => ?_)
      · simp only [fa_lt, fa_le, fa_eq, li_32] at c_22
        refine lv_aload_n hx hb dX12_see_38 rfl (lv_at hl 0 rfl) ?_
        refine t_getk (ci := 12) (C := RX12) (T := TX12) (N := 38) hx hb hts iX12 hown hw rfl 8 (by decide) (hts _ tw_1133) (fun _ h9 => h9) dX12_see_39 f_a0_X12_8 ?_
        refine lv_aload_n hx hb dX12_see_42 rfl (lv_at hl 0 rfl) ?_
        refine t_getk (ci := 12) (C := RX12) (T := TX12) (N := 38) hx hb hts iX12 hown hw rfl 1 (by decide) (hts _ tw_1126) (fun _ h9 => h9) dX12_see_43 f_a0_X12_1 ?_
        refine lv_icmp_ge (tgt := 65) hx hb dX12_see_46 (by decide) (fun c_46 => ?_) (fun c_46 => ?_)
        · simp only [fa_lt, fa_le, fa_eq] at c_46
          refine lv_iconst (v := (-1)) hx hb dX12_see_65 (by decide) ?_
          rw [hQ]
          refine W.widen (k := 0) (n := 0) (Nat.le_refl _) (Nat.le_refl _) ?_
          exact W.iret (v := (-1)) hx hb hr (fun t ht hW => ⟨⟨(-1), w0, rfl, ⟨(by decide), (by decide), hw.2.2.2.2, hM, ⟨p0_m_a0_X12_8, (by omega), (by omega), f_a0_X12_8, (by have := li_m1; omega)⟩⟩, by rw [ht]; exact hw.2.1, va_K.moved hW.alike hw.1, hw.2.2.1⟩, hw.2.2.2.1.F ht⟩) hw.2.2.2.1.2.2 dX12_see_66
        · simp only [fa_lt, fa_le, fa_eq] at c_46
          refine lv_aload_n hx hb dX12_see_49 rfl (lv_at hl 0 rfl) ?_
          refine t_getk (ci := 12) (C := RX12) (T := TX12) (N := 38) hx hb hts iX12 hown hw rfl 0 (by decide) (hts _ tw_1125) (fun _ h9 => h9) dX12_see_50 f_a0_X12_0 ?_
          refine lv_aload_n hx hb dX12_see_53 rfl (lv_at hl 0 rfl) ?_
          refine t_getk (ci := 12) (C := RX12) (T := TX12) (N := 38) hx hb hts iX12 hown hw rfl 8 (by decide) (hts _ tw_1133) (fun _ h9 => h9) dX12_see_54 f_a0_X12_8 ?_
          refine t_bald hx hb hw k_v12 rfl rfl (by omega) (show p0_m_a0_X12_8.toInt < 400 by omega) dX12_see_57 (fun v57 r_v57 s_v57 q_v57 => ?_)
          have l_v57 := i32_lo v57
          have h_v57 := i32_hi v57
          refine lv_sipush (v := 255) hx hb dX12_see_58 (by decide) ?_
          refine lv_iand hx hb dX12_see_61 ?_
          refine lv_topi (fun v61 e_v61 => ?_)
          have ⟨l_v61, h_v61⟩ : 0 ≤ v61.toInt ∧ v61.toInt ≤ 255 := and_r e_v61 li_255 (by decide)
          refine lv_goto (tgt := 66) hx hb dX12_see_62 (by decide) ?_
          rw [hQ]
          refine W.widen (k := 0) (n := 0) (Nat.le_refl _) (Nat.le_refl _) ?_
          exact W.iret (v := v61) hx hb hr (fun t ht hW => ⟨⟨v61, w0, rfl, ⟨(by omega), (by omega), hw.2.2.2.2, hM, ⟨p0_m_a0_X12_8, (by omega), (by omega), f_a0_X12_8, (by omega)⟩⟩, by rw [ht]; exact hw.2.1, va_K.moved hW.alike hw.1, hw.2.2.1⟩, hw.2.2.2.1.F ht⟩) hw.2.2.2.1.2.2 dX12_see_66
      · simp only [fa_lt, fa_le, fa_eq, li_32] at c_22
        refine lv_aload_n hx hb dX12_see_25 rfl (lv_at hl 0 rfl) ?_
        refine lv_dup hx hb dX12_see_26 rfl ?_
        refine t_getk (ci := 12) (C := RX12) (T := TX12) (N := 38) hx hb hts iX12 hown hw rfl 8 (by decide) (hts _ tw_1133) (fun _ h9 => h9) dX12_see_27 f_a0_X12_8 ?_
        refine lv_iconst (v := 1) hx hb dX12_see_30 (by decide) ?_
        refine lv_iadd hx hb dX12_see_31 ?_
        refine lv_topi (fun v31 e_v31 => ?_)
        have e_v31 : v31.toInt = p0_m_a0_X12_8.toInt + 1 := ad_i e_v31 rfl li_1 (by omega) (by omega)
        refine t_put (ci := 12) (C := RX12) (T := TX12) (N := 38) (v := .int v31) hx hb hts iX12 tyX12 tyX12_ok nmX12 hown hw k_a0 rfl rfl rfl 8 (by decide) (hts _ tw_1133) (fun _ h9 => h9) rfl (tyX12_ok 8 (by decide)) rfl rfl (okV.int rfl (by omega) (by omega)) dX12_see_32 (fun w_1 H locs hw u => ?_)
        have hM := hM.up1 u (by decide)
        have f_a0_X12_1 := u.1 _ _ _ _ f_a0_X12_1 (Or.inr (Or.inr (by decide)))
        have f_a0_X12_8 := u.2.2
        have f_a0_X12_0 := u.1 _ _ _ _ f_a0_X12_0 (Or.inr (Or.inr (by decide)))
        refine lv_goto (tgt := 0) hx hb dX12_see_35 (by decide) ?_
        exact ih_0 _ _ _ _ (by omega) ⟨w_1, v31, hw, hM, (by omega), (by omega), f_a0_X12_1, f_a0_X12_8, (by omega), (by omega), (lv_sub hl [0] rfl), rfl⟩
  exact J0 _ _ _ _ ⟨ws, f0, hw, hM, (by omega), (by omega), f_a0_X12_1, f_a0_X12_8, (by omega), (by omega), (lv_sub hl [0] rfl), rfl⟩
