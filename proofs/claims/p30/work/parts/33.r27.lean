theorem ts_5_12 : Cond.selects "BoyBishopModel" ⟨"BoyBishopModel", "isChoir", "()Z"⟩ ⟨"BoyBishopModel", "isChoir", "()Z"⟩ ∈ gT := gT_in (List.mem_append_left _ (List.mem_map.mpr ⟨(⟨"BoyBishopModel", "isChoir", "()Z"⟩, 38), (List.mem_append_right _ (List.mem_append_right _ (List.mem_append_right _ (List.mem_append_right _ (List.mem_append_right _ (List.mem_append_left _ (List.mem_of_getElem? (i := 12) rfl))))))), rfl⟩)) rfl
theorem ts_5_13 : Cond.selects "BoyBishopModel" ⟨"BoyBishopModel", "keepsAct", "()V"⟩ ⟨"BoyBishopModel", "keepsAct", "()V"⟩ ∈ gT := gT_in (List.mem_append_left _ (List.mem_map.mpr ⟨(⟨"BoyBishopModel", "keepsAct", "()V"⟩, 38), (List.mem_append_right _ (List.mem_append_right _ (List.mem_append_right _ (List.mem_append_right _ (List.mem_append_right _ (List.mem_append_left _ (List.mem_of_getElem? (i := 13) rfl))))))), rfl⟩)) rfl
theorem ts_6_13 : Cond.selects "BoyBishopModel" ⟨"BoyBishopModel", "breaksVoice", "(I)V"⟩ ⟨"BoyBishopModel", "breaksVoice", "(I)V"⟩ ∈ gT := gT_in (List.mem_append_left _ (List.mem_map.mpr ⟨(⟨"BoyBishopModel", "breaksVoice", "(I)V"⟩, 38), (List.mem_append_right _ (List.mem_append_right _ (List.mem_append_right _ (List.mem_append_right _ (List.mem_append_right _ (List.mem_append_right _ (List.mem_append_left _ (List.mem_of_getElem? (i := 13) rfl)))))))), rfl⟩)) rfl
theorem ts_7_4 : Cond.selects "BoyBishopModel" ⟨"BoyBishopModel", "pointsOf", "(I)I"⟩ ⟨"BoyBishopModel", "pointsOf", "(I)I"⟩ ∈ gT := gT_in (List.mem_append_left _ (List.mem_map.mpr ⟨(⟨"BoyBishopModel", "pointsOf", "(I)I"⟩, 38), (List.mem_append_right _ (List.mem_append_right _ (List.mem_append_right _ (List.mem_append_right _ (List.mem_append_right _ (List.mem_append_right _ (List.mem_append_right _ (List.mem_append_left _ (List.mem_of_getElem? (i := 4) rfl))))))))), rfl⟩)) rfl
theorem tw_1150 : (Jvm.Cond.fieldLink "BoyBishopModel" (49 : Nat) "BoyBishopModel" "wasSaid" "[I") ∈ gT := gT_in (List.mem_append_right _ (List.mem_append_right _ (List.mem_append_right _ (List.mem_append_right _ (List.mem_append_right _ (List.mem_append_left _ (List.mem_of_getElem? (i := 190) rfl))))))) rfl
theorem tw_1489 : (Jvm.Cond.methodLink "BoyBishopModel" (379 : Nat) ({ cls := "BoyBishopModel", name := "isChoir", desc := "()Z" } : Jvm.MethodName)) ∈ gT := gT_in (List.mem_append_right _ (List.mem_append_right _ (List.mem_append_right _ (List.mem_append_right _ (List.mem_append_right _ (List.mem_append_right _ (List.mem_append_right _ (List.mem_append_left _ (List.mem_of_getElem? (i := 49) rfl))))))))) rfl
theorem tw_1491 : (Jvm.Cond.instanceMethod ({ cls := "BoyBishopModel", name := "isChoir", desc := "()Z" } : Jvm.MethodName)) ∈ gT := gT_in (List.mem_append_right _ (List.mem_append_right _ (List.mem_append_right _ (List.mem_append_right _ (List.mem_append_right _ (List.mem_append_right _ (List.mem_append_right _ (List.mem_append_left _ (List.mem_of_getElem? (i := 51) rfl))))))))) rfl
theorem tw_1492 : (Jvm.Cond.code ({ cls := "BoyBishopModel", name := "isChoir", desc := "()Z" } : Jvm.MethodName) prog_14_method_51_code (1 : Nat) (Option.some Jvm.ClassFile.FieldType.boolean)) ∈ gT := gT_in (List.mem_append_right _ (List.mem_append_right _ (List.mem_append_right _ (List.mem_append_right _ (List.mem_append_right _ (List.mem_append_right _ (List.mem_append_right _ (List.mem_append_left _ (List.mem_of_getElem? (i := 52) rfl))))))))) rfl
theorem tw_1493 : (Jvm.Cond.methodLink "BoyBishopModel" (382 : Nat) ({ cls := "BoyBishopModel", name := "keepsAct", desc := "()V" } : Jvm.MethodName)) ∈ gT := gT_in (List.mem_append_right _ (List.mem_append_right _ (List.mem_append_right _ (List.mem_append_right _ (List.mem_append_right _ (List.mem_append_right _ (List.mem_append_right _ (List.mem_append_left _ (List.mem_of_getElem? (i := 53) rfl))))))))) rfl
theorem tw_1495 : (Jvm.Cond.instanceMethod ({ cls := "BoyBishopModel", name := "keepsAct", desc := "()V" } : Jvm.MethodName)) ∈ gT := gT_in (List.mem_append_right _ (List.mem_append_right _ (List.mem_append_right _ (List.mem_append_right _ (List.mem_append_right _ (List.mem_append_right _ (List.mem_append_right _ (List.mem_append_left _ (List.mem_of_getElem? (i := 55) rfl))))))))) rfl
theorem tw_1496 : (Jvm.Cond.code ({ cls := "BoyBishopModel", name := "keepsAct", desc := "()V" } : Jvm.MethodName) prog_14_method_80_code (2 : Nat) (Option.none : Option Jvm.ClassFile.FieldType)) ∈ gT := gT_in (List.mem_append_right _ (List.mem_append_right _ (List.mem_append_right _ (List.mem_append_right _ (List.mem_append_right _ (List.mem_append_right _ (List.mem_append_right _ (List.mem_append_left _ (List.mem_of_getElem? (i := 56) rfl))))))))) rfl
theorem tw_1563 : (Jvm.Cond.methodLink "BoyBishopModel" (373 : Nat) ({ cls := "BoyBishopModel", name := "breaksVoice", desc := "(I)V" } : Jvm.MethodName)) ∈ gT := gT_in (List.mem_append_right _ (List.mem_append_right _ (List.mem_append_right _ (List.mem_append_right _ (List.mem_append_right _ (List.mem_append_right _ (List.mem_append_right _ (List.mem_append_left _ (List.mem_of_getElem? (i := 123) rfl))))))))) rfl
theorem tw_1565 : (Jvm.Cond.instanceMethod ({ cls := "BoyBishopModel", name := "breaksVoice", desc := "(I)V" } : Jvm.MethodName)) ∈ gT := gT_in (List.mem_append_right _ (List.mem_append_right _ (List.mem_append_right _ (List.mem_append_right _ (List.mem_append_right _ (List.mem_append_right _ (List.mem_append_right _ (List.mem_append_left _ (List.mem_of_getElem? (i := 125) rfl))))))))) rfl
theorem tw_1566 : (Jvm.Cond.code ({ cls := "BoyBishopModel", name := "breaksVoice", desc := "(I)V" } : Jvm.MethodName) prog_14_method_76_code (2 : Nat) (Option.none : Option Jvm.ClassFile.FieldType)) ∈ gT := gT_in (List.mem_append_right _ (List.mem_append_right _ (List.mem_append_right _ (List.mem_append_right _ (List.mem_append_right _ (List.mem_append_right _ (List.mem_append_right _ (List.mem_append_left _ (List.mem_of_getElem? (i := 126) rfl))))))))) rfl
theorem tw_1622 : (Jvm.Cond.methodLink "BoyBishopModel" (403 : Nat) ({ cls := "BoyBishopModel", name := "pointsOf", desc := "(I)I" } : Jvm.MethodName)) ∈ gT := gT_in (List.mem_append_right _ (List.mem_append_right _ (List.mem_append_right _ (List.mem_append_right _ (List.mem_append_right _ (List.mem_append_right _ (List.mem_append_right _ (List.mem_append_left _ (List.mem_of_getElem? (i := 182) rfl))))))))) rfl
theorem tw_1624 : (Jvm.Cond.instanceMethod ({ cls := "BoyBishopModel", name := "pointsOf", desc := "(I)I" } : Jvm.MethodName)) ∈ gT := gT_in (List.mem_append_right _ (List.mem_append_right _ (List.mem_append_right _ (List.mem_append_right _ (List.mem_append_right _ (List.mem_append_right _ (List.mem_append_right _ (List.mem_append_left _ (List.mem_of_getElem? (i := 184) rfl))))))))) rfl
theorem tw_1625 : (Jvm.Cond.code ({ cls := "BoyBishopModel", name := "pointsOf", desc := "(I)I" } : Jvm.MethodName) prog_14_method_93_code (5 : Nat) (Option.some Jvm.ClassFile.FieldType.int)) ∈ gT := gT_in (List.mem_append_right _ (List.mem_append_right _ (List.mem_append_right _ (List.mem_append_right _ (List.mem_append_right _ (List.mem_append_right _ (List.mem_append_right _ (List.mem_append_left _ (List.mem_of_getElem? (i := 185) rfl))))))))) rfl
theorem tw_1637 : (Jvm.Cond.methodLink "BoyBishopModel" (406 : Nat) ({ cls := "BoyBishopModel", name := "isOf", desc := "(II)Z" } : Jvm.MethodName)) ∈ gT := gT_in (List.mem_append_right _ (List.mem_append_right _ (List.mem_append_right _ (List.mem_append_right _ (List.mem_append_right _ (List.mem_append_right _ (List.mem_append_right _ (List.mem_append_left _ (List.mem_of_getElem? (i := 197) rfl))))))))) rfl
theorem tw_1638 : (Jvm.Cond.static ({ cls := "BoyBishopModel", name := "isOf", desc := "(II)Z" } : Jvm.MethodName)) ∈ gT := gT_in (List.mem_append_right _ (List.mem_append_right _ (List.mem_append_right _ (List.mem_append_right _ (List.mem_append_right _ (List.mem_append_right _ (List.mem_append_right _ (List.mem_append_left _ (List.mem_of_getElem? (i := 198) rfl))))))))) rfl
theorem tw_1639 : (Jvm.Cond.code ({ cls := "BoyBishopModel", name := "isOf", desc := "(II)Z" } : Jvm.MethodName) prog_14_method_3_code (2 : Nat) (Option.some Jvm.ClassFile.FieldType.boolean)) ∈ gT := gT_in (List.mem_append_right _ (List.mem_append_right _ (List.mem_append_right _ (List.mem_append_right _ (List.mem_append_right _ (List.mem_append_right _ (List.mem_append_right _ (List.mem_append_left _ (List.mem_of_getElem? (i := 199) rfl))))))))) rfl
theorem dX12_best_0 : decode cX12_best 0 = .ok (.aload_n 0, 1) := by decide +kernel
theorem dX12_best_1 : decode cX12_best 1 = .ok (.invokevirtual 379, 3) := by decide +kernel
theorem dX12_best_4 : decode cX12_best 4 = .ok (.ifCond .eq 13, 3) := by decide +kernel
theorem dX12_best_7 : decode cX12_best 7 = .ok (.iload_n 1, 1) := by decide +kernel
theorem dX12_best_8 : decode cX12_best 8 = .ok (.i2l, 1) := by decide +kernel
theorem dX12_best_9 : decode cX12_best 9 = .ok (.lconst 0, 1) := by decide +kernel
theorem dX12_best_10 : decode cX12_best 10 = .ok (.lconst 1, 1) := by decide +kernel
theorem dX12_best_11 : decode cX12_best 11 = .ok (.invokestatic 121, 3) := by decide +kernel
theorem dX12_best_14 : decode cX12_best 14 = .ok (.ifCond .ne 5, 3) := by decide +kernel
theorem dX12_best_17 : decode cX12_best 17 = .ok (.iconst (-1), 1) := by decide +kernel
theorem dX12_best_18 : decode cX12_best 18 = .ok (.ireturn, 1) := by decide +kernel
theorem dX12_best_19 : decode cX12_best 19 = .ok (.bipush (-2), 2) := by decide +kernel
theorem dX12_best_21 : decode cX12_best 21 = .ok (.istore_n 2, 1) := by decide +kernel
theorem dX12_best_22 : decode cX12_best 22 = .ok (.iconst 0, 1) := by decide +kernel
theorem dX12_best_23 : decode cX12_best 23 = .ok (.istore_n 3, 1) := by decide +kernel
theorem dX12_best_24 : decode cX12_best 24 = .ok (.iload_n 3, 1) := by decide +kernel
theorem dX12_best_25 : decode cX12_best 25 = .ok (.aload_n 0, 1) := by decide +kernel
theorem dX12_best_26 : decode cX12_best 26 = .ok (.getfield 39, 3) := by decide +kernel
theorem dX12_best_29 : decode cX12_best 29 = .ok (.iconst 4, 1) := by decide +kernel
theorem dX12_best_30 : decode cX12_best 30 = .ok (.iaload, 1) := by decide +kernel
theorem dX12_best_31 : decode cX12_best 31 = .ok (.if_icmp .ge 38, 3) := by decide +kernel
theorem dX12_best_34 : decode cX12_best 34 = .ok (.aload_n 0, 1) := by decide +kernel
theorem dX12_best_35 : decode cX12_best 35 = .ok (.iload_n 3, 1) := by decide +kernel
theorem dX12_best_36 : decode cX12_best 36 = .ok (.invokevirtual 361, 3) := by decide +kernel
theorem dX12_best_39 : decode cX12_best 39 = .ok (.ifCond .eq 24, 3) := by decide +kernel
theorem dX12_best_42 : decode cX12_best 42 = .ok (.iload_n 2, 1) := by decide +kernel
theorem dX12_best_43 : decode cX12_best 43 = .ok (.ifCond .lt 18, 3) := by decide +kernel
theorem dX12_best_46 : decode cX12_best 46 = .ok (.aload_n 0, 1) := by decide +kernel
theorem dX12_best_47 : decode cX12_best 47 = .ok (.iload_n 3, 1) := by decide +kernel
theorem dX12_best_48 : decode cX12_best 48 = .ok (.iconst 0, 1) := by decide +kernel
theorem dX12_best_49 : decode cX12_best 49 = .ok (.invokevirtual 311, 3) := by decide +kernel
theorem dX12_best_52 : decode cX12_best 52 = .ok (.aload_n 0, 1) := by decide +kernel
theorem dX12_best_53 : decode cX12_best 53 = .ok (.iload_n 2, 1) := by decide +kernel
theorem dX12_best_54 : decode cX12_best 54 = .ok (.iconst 0, 1) := by decide +kernel
theorem dX12_best_55 : decode cX12_best 55 = .ok (.invokevirtual 311, 3) := by decide +kernel
theorem dX12_best_58 : decode cX12_best 58 = .ok (.if_icmp .ge 5, 3) := by decide +kernel
theorem dX12_best_61 : decode cX12_best 61 = .ok (.iload_n 3, 1) := by decide +kernel
theorem dX12_best_62 : decode cX12_best 62 = .ok (.istore_n 2, 1) := by decide +kernel
theorem dX12_best_63 : decode cX12_best 63 = .ok (.iinc 3 1, 3) := by decide +kernel
theorem dX12_best_66 : decode cX12_best 66 = .ok (.goto (-42), 3) := by decide +kernel
theorem dX12_best_69 : decode cX12_best 69 = .ok (.iload_n 1, 1) := by decide +kernel
theorem dX12_best_70 : decode cX12_best 70 = .ok (.ifCond .eq 7, 3) := by decide +kernel
theorem dX12_best_73 : decode cX12_best 73 = .ok (.iload_n 2, 1) := by decide +kernel
theorem dX12_best_74 : decode cX12_best 74 = .ok (.ifCond .ge 5, 3) := by decide +kernel
theorem dX12_best_77 : decode cX12_best 77 = .ok (.iload_n 2, 1) := by decide +kernel
theorem dX12_best_78 : decode cX12_best 78 = .ok (.ireturn, 1) := by decide +kernel
theorem dX12_best_79 : decode cX12_best 79 = .ok (.bipush 10, 2) := by decide +kernel
theorem dX12_best_81 : decode cX12_best 81 = .ok (.bipush 100, 2) := by decide +kernel
theorem dX12_best_83 : decode cX12_best 83 = .ok (.aload_n 0, 1) := by decide +kernel
theorem dX12_best_84 : decode cX12_best 84 = .ok (.iload_n 2, 1) := by decide +kernel
theorem dX12_best_85 : decode cX12_best 85 = .ok (.iconst 0, 1) := by decide +kernel
theorem dX12_best_86 : decode cX12_best 86 = .ok (.invokevirtual 311, 3) := by decide +kernel
theorem dX12_best_89 : decode cX12_best 89 = .ok (.isub, 1) := by decide +kernel
theorem dX12_best_90 : decode cX12_best 90 = .ok (.imul, 1) := by decide +kernel
theorem dX12_best_91 : decode cX12_best 91 = .ok (.aload_n 0, 1) := by decide +kernel
theorem dX12_best_92 : decode cX12_best 92 = .ok (.getfield 39, 3) := by decide +kernel
theorem dX12_best_95 : decode cX12_best 95 = .ok (.bipush 10, 2) := by decide +kernel
theorem dX12_best_97 : decode cX12_best 97 = .ok (.iaload, 1) := by decide +kernel
theorem dX12_best_98 : decode cX12_best 98 = .ok (.bipush 10, 2) := by decide +kernel
theorem dX12_best_100 : decode cX12_best 100 = .ok (.irem, 1) := by decide +kernel
theorem dX12_best_101 : decode cX12_best 101 = .ok (.isub, 1) := by decide +kernel
theorem dX12_best_102 : decode cX12_best 102 = .ok (.ireturn, 1) := by decide +kernel
theorem dX12_bits_0 : decode cX12_bits 0 = .ok (.iconst 0, 1) := by decide +kernel
theorem dX12_bits_1 : decode cX12_bits 1 = .ok (.istore_n 1, 1) := by decide +kernel
theorem dX12_bits_2 : decode cX12_bits 2 = .ok (.iload_n 0, 1) := by decide +kernel
theorem dX12_bits_3 : decode cX12_bits 3 = .ok (.istore_n 2, 1) := by decide +kernel
theorem dX12_bits_4 : decode cX12_bits 4 = .ok (.iload_n 2, 1) := by decide +kernel
theorem dX12_bits_5 : decode cX12_bits 5 = .ok (.ifCond .eq 15, 3) := by decide +kernel
theorem dX12_bits_8 : decode cX12_bits 8 = .ok (.iinc 1 1, 3) := by decide +kernel
theorem dX12_bits_11 : decode cX12_bits 11 = .ok (.iload_n 2, 1) := by decide +kernel
theorem dX12_bits_12 : decode cX12_bits 12 = .ok (.iload_n 2, 1) := by decide +kernel
theorem dX12_bits_13 : decode cX12_bits 13 = .ok (.iconst 1, 1) := by decide +kernel
theorem dX12_bits_14 : decode cX12_bits 14 = .ok (.isub, 1) := by decide +kernel
theorem dX12_bits_15 : decode cX12_bits 15 = .ok (.iand, 1) := by decide +kernel
theorem dX12_bits_16 : decode cX12_bits 16 = .ok (.istore_n 2, 1) := by decide +kernel
theorem dX12_bits_17 : decode cX12_bits 17 = .ok (.goto (-13), 3) := by decide +kernel
theorem dX12_bits_20 : decode cX12_bits 20 = .ok (.iload_n 1, 1) := by decide +kernel
theorem dX12_bits_21 : decode cX12_bits 21 = .ok (.ireturn, 1) := by decide +kernel
theorem dX12_boy_0 : decode cX12_boy 0 = .ok (.aload_n 0, 1) := by decide +kernel
theorem dX12_boy_1 : decode cX12_boy 1 = .ok (.iload_n 1, 1) := by decide +kernel
theorem dX12_boy_2 : decode cX12_boy 2 = .ok (.invokevirtual 301, 3) := by decide +kernel
theorem dX12_boy_5 : decode cX12_boy 5 = .ok (.ifCond .eq 15, 3) := by decide +kernel
theorem dX12_boy_8 : decode cX12_boy 8 = .ok (.iload_n 2, 1) := by decide +kernel
theorem dX12_boy_9 : decode cX12_boy 9 = .ok (.i2l, 1) := by decide +kernel
theorem dX12_boy_10 : decode cX12_boy 10 = .ok (.lconst 0, 1) := by decide +kernel
theorem dX12_boy_11 : decode cX12_boy 11 = .ok (.ldc2_w 323, 3) := by decide +kernel
theorem dX12_boy_14 : decode cX12_boy 14 = .ok (.invokestatic 121, 3) := by decide +kernel
theorem dX12_boy_17 : decode cX12_boy 17 = .ok (.ifCond .ne 5, 3) := by decide +kernel
theorem dX12_boy_20 : decode cX12_boy 20 = .ok (.iconst (-1), 1) := by decide +kernel
theorem dX12_boy_21 : decode cX12_boy 21 = .ok (.ireturn, 1) := by decide +kernel
theorem dX12_boy_22 : decode cX12_boy 22 = .ok (.iload_n 2, 1) := by decide +kernel
theorem dX12_boy_23 : decode cX12_boy 23 = .ok (.iconst 2, 1) := by decide +kernel
theorem dX12_boy_24 : decode cX12_boy 24 = .ok (.if_icmp .ge 12, 3) := by decide +kernel
theorem dX12_boy_27 : decode cX12_boy 27 = .ok (.aload_n 0, 1) := by decide +kernel
theorem dX12_boy_28 : decode cX12_boy 28 = .ok (.iload_n 1, 1) := by decide +kernel
theorem dX12_boy_29 : decode cX12_boy 29 = .ok (.iload_n 2, 1) := by decide +kernel
theorem dX12_boy_30 : decode cX12_boy 30 = .ok (.invokevirtual 304, 3) := by decide +kernel
theorem dX12_boy_33 : decode cX12_boy 33 = .ok (.goto 26, 3) := by decide +kernel
theorem dX12_boy_36 : decode cX12_boy 36 = .ok (.iload_n 2, 1) := by decide +kernel
theorem dX12_boy_37 : decode cX12_boy 37 = .ok (.iconst 2, 1) := by decide +kernel
theorem dX12_boy_38 : decode cX12_boy 38 = .ok (.if_icmp .ne 15, 3) := by decide +kernel
theorem dX12_boy_41 : decode cX12_boy 41 = .ok (.aload_n 0, 1) := by decide +kernel
theorem dX12_boy_42 : decode cX12_boy 42 = .ok (.getfield 39, 3) := by decide +kernel
theorem dX12_boy_45 : decode cX12_boy 45 = .ok (.bipush 52, 2) := by decide +kernel
theorem dX12_boy_47 : decode cX12_boy 47 = .ok (.iload_n 1, 1) := by decide +kernel
theorem dX12_boy_48 : decode cX12_boy 48 = .ok (.iadd, 1) := by decide +kernel
theorem dX12_boy_49 : decode cX12_boy 49 = .ok (.iaload, 1) := by decide +kernel
theorem dX12_boy_50 : decode cX12_boy 50 = .ok (.goto 9, 3) := by decide +kernel
theorem dX12_boy_53 : decode cX12_boy 53 = .ok (.aload_n 0, 1) := by decide +kernel
theorem dX12_boy_54 : decode cX12_boy 54 = .ok (.iload_n 1, 1) := by decide +kernel
theorem dX12_boy_55 : decode cX12_boy 55 = .ok (.iconst 2, 1) := by decide +kernel
theorem dX12_boy_56 : decode cX12_boy 56 = .ok (.invokevirtual 304, 3) := by decide +kernel
theorem dX12_boy_59 : decode cX12_boy 59 = .ok (.ireturn, 1) := by decide +kernel
theorem dX12_breaks_0 : decode cX12_breaks 0 = .ok (.aload_n 0, 1) := by decide +kernel
theorem dX12_breaks_1 : decode cX12_breaks 1 = .ok (.iload_n 1, 1) := by decide +kernel
theorem dX12_breaks_2 : decode cX12_breaks 2 = .ok (.invokevirtual 314, 3) := by decide +kernel
theorem dX12_breaks_5 : decode cX12_breaks 5 = .ok (.ifCond .ne 5, 3) := by decide +kernel
theorem dX12_breaks_8 : decode cX12_breaks 8 = .ok (.iconst (-1), 1) := by decide +kernel
theorem dX12_breaks_9 : decode cX12_breaks 9 = .ok (.ireturn, 1) := by decide +kernel
theorem dX12_breaks_10 : decode cX12_breaks 10 = .ok (.aload_n 0, 1) := by decide +kernel
theorem dX12_breaks_11 : decode cX12_breaks 11 = .ok (.invokevirtual 382, 3) := by decide +kernel
theorem dX12_breaks_14 : decode cX12_breaks 14 = .ok (.aload_n 0, 1) := by decide +kernel
theorem dX12_breaks_15 : decode cX12_breaks 15 = .ok (.iload_n 1, 1) := by decide +kernel
theorem dX12_breaks_16 : decode cX12_breaks 16 = .ok (.iconst 0, 1) := by decide +kernel
theorem dX12_breaks_17 : decode cX12_breaks 17 = .ok (.invokevirtual 304, 3) := by decide +kernel
theorem dX12_breaks_20 : decode cX12_breaks 20 = .ok (.istore_n 2, 1) := by decide +kernel
theorem dX12_breaks_21 : decode cX12_breaks 21 = .ok (.aload_n 0, 1) := by decide +kernel
theorem dX12_breaks_22 : decode cX12_breaks 22 = .ok (.iload_n 1, 1) := by decide +kernel
theorem dX12_breaks_23 : decode cX12_breaks 23 = .ok (.invokevirtual 373, 3) := by decide +kernel
theorem dX12_breaks_26 : decode cX12_breaks 26 = .ok (.iload_n 2, 1) := by decide +kernel
theorem dX12_breaks_27 : decode cX12_breaks 27 = .ok (.ireturn, 1) := by decide +kernel
theorem dX12_byPoints_0 : decode cX12_byPoints 0 = .ok (.iconst (-1), 1) := by decide +kernel
theorem dX12_byPoints_1 : decode cX12_byPoints 1 = .ok (.istore_n 1, 1) := by decide +kernel
theorem dX12_byPoints_2 : decode cX12_byPoints 2 = .ok (.iconst 0, 1) := by decide +kernel
theorem dX12_byPoints_3 : decode cX12_byPoints 3 = .ok (.istore_n 2, 1) := by decide +kernel
theorem dX12_byPoints_4 : decode cX12_byPoints 4 = .ok (.iload_n 2, 1) := by decide +kernel
theorem dX12_byPoints_5 : decode cX12_byPoints 5 = .ok (.aload_n 0, 1) := by decide +kernel
theorem dX12_byPoints_6 : decode cX12_byPoints 6 = .ok (.getfield 39, 3) := by decide +kernel
theorem dX12_byPoints_9 : decode cX12_byPoints 9 = .ok (.iconst 3, 1) := by decide +kernel
theorem dX12_byPoints_10 : decode cX12_byPoints 10 = .ok (.iaload, 1) := by decide +kernel
theorem dX12_byPoints_11 : decode cX12_byPoints 11 = .ok (.if_icmp .ge 36, 3) := by decide +kernel
theorem dX12_byPoints_14 : decode cX12_byPoints 14 = .ok (.aload_n 0, 1) := by decide +kernel
theorem dX12_byPoints_15 : decode cX12_byPoints 15 = .ok (.iload_n 2, 1) := by decide +kernel
theorem dX12_byPoints_16 : decode cX12_byPoints 16 = .ok (.invokevirtual 314, 3) := by decide +kernel
theorem dX12_byPoints_19 : decode cX12_byPoints 19 = .ok (.ifCond .eq 22, 3) := by decide +kernel
theorem dX12_byPoints_22 : decode cX12_byPoints 22 = .ok (.iload_n 1, 1) := by decide +kernel
theorem dX12_byPoints_23 : decode cX12_byPoints 23 = .ok (.ifCond .lt 16, 3) := by decide +kernel
theorem dX12_byPoints_26 : decode cX12_byPoints 26 = .ok (.aload_n 0, 1) := by decide +kernel
theorem dX12_byPoints_27 : decode cX12_byPoints 27 = .ok (.iload_n 2, 1) := by decide +kernel
theorem dX12_byPoints_28 : decode cX12_byPoints 28 = .ok (.invokevirtual 403, 3) := by decide +kernel
theorem dX12_byPoints_31 : decode cX12_byPoints 31 = .ok (.aload_n 0, 1) := by decide +kernel
theorem dX12_byPoints_32 : decode cX12_byPoints 32 = .ok (.iload_n 1, 1) := by decide +kernel
theorem dX12_byPoints_33 : decode cX12_byPoints 33 = .ok (.invokevirtual 403, 3) := by decide +kernel
theorem dX12_byPoints_36 : decode cX12_byPoints 36 = .ok (.if_icmp .le 5, 3) := by decide +kernel
theorem dX12_byPoints_39 : decode cX12_byPoints 39 = .ok (.iload_n 2, 1) := by decide +kernel
theorem dX12_byPoints_40 : decode cX12_byPoints 40 = .ok (.istore_n 1, 1) := by decide +kernel
theorem dX12_byPoints_41 : decode cX12_byPoints 41 = .ok (.iinc 2 1, 3) := by decide +kernel
theorem dX12_byPoints_44 : decode cX12_byPoints 44 = .ok (.goto (-40), 3) := by decide +kernel
theorem dX12_byPoints_47 : decode cX12_byPoints 47 = .ok (.iload_n 1, 1) := by decide +kernel
theorem dX12_byPoints_48 : decode cX12_byPoints 48 = .ok (.ireturn, 1) := by decide +kernel
theorem dX12_firstOf_0 : decode cX12_firstOf 0 = .ok (.iconst (-1), 1) := by decide +kernel
theorem dX12_firstOf_1 : decode cX12_firstOf 1 = .ok (.istore_n 3, 1) := by decide +kernel
theorem dX12_firstOf_2 : decode cX12_firstOf 2 = .ok (.iconst 0, 1) := by decide +kernel
theorem dX12_firstOf_3 : decode cX12_firstOf 3 = .ok (.istore 4, 2) := by decide +kernel
theorem dX12_firstOf_5 : decode cX12_firstOf 5 = .ok (.iload 4, 2) := by decide +kernel
theorem dX12_firstOf_7 : decode cX12_firstOf 7 = .ok (.aload_n 0, 1) := by decide +kernel
theorem dX12_firstOf_8 : decode cX12_firstOf 8 = .ok (.getfield 39, 3) := by decide +kernel
theorem dX12_firstOf_11 : decode cX12_firstOf 11 = .ok (.iconst 3, 1) := by decide +kernel
theorem dX12_firstOf_12 : decode cX12_firstOf 12 = .ok (.iaload, 1) := by decide +kernel
theorem dX12_firstOf_13 : decode cX12_firstOf 13 = .ok (.if_icmp .ge 36, 3) := by decide +kernel
theorem dX12_firstOf_16 : decode cX12_firstOf 16 = .ok (.iload_n 2, 1) := by decide +kernel
theorem dX12_firstOf_17 : decode cX12_firstOf 17 = .ok (.iload 4, 2) := by decide +kernel
theorem dX12_firstOf_19 : decode cX12_firstOf 19 = .ok (.invokestatic 406, 3) := by decide +kernel
theorem dX12_firstOf_22 : decode cX12_firstOf 22 = .ok (.ifCond .eq 21, 3) := by decide +kernel
theorem dX12_firstOf_25 : decode cX12_firstOf 25 = .ok (.iload_n 3, 1) := by decide +kernel
theorem dX12_firstOf_26 : decode cX12_firstOf 26 = .ok (.ifCond .lt 14, 3) := by decide +kernel
theorem dX12_firstOf_29 : decode cX12_firstOf 29 = .ok (.aload_n 0, 1) := by decide +kernel
theorem dX12_firstOf_30 : decode cX12_firstOf 30 = .ok (.iload_n 1, 1) := by decide +kernel
theorem dX12_firstOf_31 : decode cX12_firstOf 31 = .ok (.iload 4, 2) := by decide +kernel
theorem dX12_firstOf_33 : decode cX12_firstOf 33 = .ok (.iload_n 3, 1) := by decide +kernel
theorem dX12_firstOf_34 : decode cX12_firstOf 34 = .ok (.invokevirtual 400, 3) := by decide +kernel
theorem dX12_firstOf_37 : decode cX12_firstOf 37 = .ok (.ifCond .eq 6, 3) := by decide +kernel
theorem dX12_firstOf_40 : decode cX12_firstOf 40 = .ok (.iload 4, 2) := by decide +kernel
theorem dX12_firstOf_42 : decode cX12_firstOf 42 = .ok (.istore_n 3, 1) := by decide +kernel
theorem dX12_firstOf_43 : decode cX12_firstOf 43 = .ok (.iinc 4 1, 3) := by decide +kernel
theorem dX12_firstOf_46 : decode cX12_firstOf 46 = .ok (.goto (-41), 3) := by decide +kernel
theorem dX12_firstOf_49 : decode cX12_firstOf 49 = .ok (.iload_n 3, 1) := by decide +kernel
theorem dX12_firstOf_50 : decode cX12_firstOf 50 = .ok (.ireturn, 1) := by decide +kernel
theorem dX12_isOf_0 : decode cX12_isOf 0 = .ok (.iload_n 0, 1) := by decide +kernel
theorem dX12_isOf_1 : decode cX12_isOf 1 = .ok (.iload_n 1, 1) := by decide +kernel
theorem dX12_isOf_2 : decode cX12_isOf 2 = .ok (.ishr, 1) := by decide +kernel
theorem dX12_isOf_3 : decode cX12_isOf 3 = .ok (.iconst 1, 1) := by decide +kernel
theorem dX12_isOf_4 : decode cX12_isOf 4 = .ok (.iand, 1) := by decide +kernel
theorem dX12_isOf_5 : decode cX12_isOf 5 = .ok (.iconst 1, 1) := by decide +kernel
theorem dX12_isOf_6 : decode cX12_isOf 6 = .ok (.if_icmp .ne 7, 3) := by decide +kernel
theorem dX12_isOf_9 : decode cX12_isOf 9 = .ok (.iconst 1, 1) := by decide +kernel
theorem dX12_isOf_10 : decode cX12_isOf 10 = .ok (.goto 4, 3) := by decide +kernel
theorem dX12_isOf_13 : decode cX12_isOf 13 = .ok (.iconst 0, 1) := by decide +kernel
theorem dX12_isOf_14 : decode cX12_isOf 14 = .ok (.ireturn, 1) := by decide +kernel
theorem dX12_keepsAct_0 : decode cX12_keepsAct 0 = .ok (.aload_n 0, 1) := by decide +kernel
theorem dX12_keepsAct_1 : decode cX12_keepsAct 1 = .ok (.getfield 283, 3) := by decide +kernel
theorem dX12_keepsAct_4 : decode cX12_keepsAct 4 = .ok (.bipush 20, 2) := by decide +kernel
theorem dX12_keepsAct_6 : decode cX12_keepsAct 6 = .ok (.if_icmp .ne 44, 3) := by decide +kernel
theorem dX12_keepsAct_9 : decode cX12_keepsAct 9 = .ok (.bipush 42, 2) := by decide +kernel
theorem dX12_keepsAct_11 : decode cX12_keepsAct 11 = .ok (.istore_n 1, 1) := by decide +kernel
theorem dX12_keepsAct_12 : decode cX12_keepsAct 12 = .ok (.iload_n 1, 1) := by decide +kernel
theorem dX12_keepsAct_13 : decode cX12_keepsAct 13 = .ok (.sipush 840, 3) := by decide +kernel
theorem dX12_keepsAct_16 : decode cX12_keepsAct 16 = .ok (.if_icmp .ge 24, 3) := by decide +kernel
theorem dX12_keepsAct_19 : decode cX12_keepsAct 19 = .ok (.aload_n 0, 1) := by decide +kernel
theorem dX12_keepsAct_20 : decode cX12_keepsAct 20 = .ok (.getfield 49, 3) := by decide +kernel
theorem dX12_keepsAct_23 : decode cX12_keepsAct 23 = .ok (.iload_n 1, 1) := by decide +kernel
theorem dX12_keepsAct_24 : decode cX12_keepsAct 24 = .ok (.bipush 42, 2) := by decide +kernel
theorem dX12_keepsAct_26 : decode cX12_keepsAct 26 = .ok (.isub, 1) := by decide +kernel
theorem dX12_keepsAct_27 : decode cX12_keepsAct 27 = .ok (.aload_n 0, 1) := by decide +kernel
theorem dX12_keepsAct_28 : decode cX12_keepsAct 28 = .ok (.getfield 49, 3) := by decide +kernel
theorem dX12_keepsAct_31 : decode cX12_keepsAct 31 = .ok (.iload_n 1, 1) := by decide +kernel
theorem dX12_keepsAct_32 : decode cX12_keepsAct 32 = .ok (.iaload, 1) := by decide +kernel
theorem dX12_keepsAct_33 : decode cX12_keepsAct 33 = .ok (.iastore, 1) := by decide +kernel
theorem dX12_keepsAct_34 : decode cX12_keepsAct 34 = .ok (.iinc 1 1, 3) := by decide +kernel
theorem dX12_keepsAct_37 : decode cX12_keepsAct 37 = .ok (.goto (-25), 3) := by decide +kernel
theorem dX12_keepsAct_40 : decode cX12_keepsAct 40 = .ok (.aload_n 0, 1) := by decide +kernel
theorem dX12_keepsAct_41 : decode cX12_keepsAct 41 = .ok (.dup, 1) := by decide +kernel
theorem dX12_keepsAct_42 : decode cX12_keepsAct 42 = .ok (.getfield 283, 3) := by decide +kernel
theorem dX12_keepsAct_45 : decode cX12_keepsAct 45 = .ok (.iconst 1, 1) := by decide +kernel
theorem dX12_keepsAct_46 : decode cX12_keepsAct 46 = .ok (.isub, 1) := by decide +kernel
theorem dX12_keepsAct_47 : decode cX12_keepsAct 47 = .ok (.putfield 283, 3) := by decide +kernel
theorem dX12_keepsAct_50 : decode cX12_keepsAct 50 = .ok (.iconst 0, 1) := by decide +kernel
theorem dX12_keepsAct_51 : decode cX12_keepsAct 51 = .ok (.istore_n 1, 1) := by decide +kernel
theorem dX12_keepsAct_52 : decode cX12_keepsAct 52 = .ok (.iload_n 1, 1) := by decide +kernel
theorem dX12_keepsAct_53 : decode cX12_keepsAct 53 = .ok (.bipush 42, 2) := by decide +kernel
theorem dX12_keepsAct_55 : decode cX12_keepsAct 55 = .ok (.if_icmp .ge 32, 3) := by decide +kernel
theorem dX12_keepsAct_58 : decode cX12_keepsAct 58 = .ok (.aload_n 0, 1) := by decide +kernel
theorem dX12_keepsAct_59 : decode cX12_keepsAct 59 = .ok (.getfield 49, 3) := by decide +kernel
theorem dX12_keepsAct_62 : decode cX12_keepsAct 62 = .ok (.bipush 42, 2) := by decide +kernel
theorem dX12_keepsAct_64 : decode cX12_keepsAct 64 = .ok (.aload_n 0, 1) := by decide +kernel
theorem dX12_keepsAct_65 : decode cX12_keepsAct 65 = .ok (.getfield 283, 3) := by decide +kernel
theorem dX12_keepsAct_68 : decode cX12_keepsAct 68 = .ok (.imul, 1) := by decide +kernel
theorem dX12_keepsAct_69 : decode cX12_keepsAct 69 = .ok (.iload_n 1, 1) := by decide +kernel
theorem dX12_keepsAct_70 : decode cX12_keepsAct 70 = .ok (.iadd, 1) := by decide +kernel
theorem dX12_keepsAct_71 : decode cX12_keepsAct 71 = .ok (.aload_n 0, 1) := by decide +kernel
theorem dX12_keepsAct_72 : decode cX12_keepsAct 72 = .ok (.getfield 39, 3) := by decide +kernel
theorem dX12_keepsAct_75 : decode cX12_keepsAct 75 = .ok (.bipush 10, 2) := by decide +kernel
theorem dX12_keepsAct_77 : decode cX12_keepsAct 77 = .ok (.iload_n 1, 1) := by decide +kernel
theorem dX12_keepsAct_78 : decode cX12_keepsAct 78 = .ok (.iadd, 1) := by decide +kernel
theorem dX12_keepsAct_79 : decode cX12_keepsAct 79 = .ok (.iaload, 1) := by decide +kernel
theorem dX12_keepsAct_80 : decode cX12_keepsAct 80 = .ok (.iastore, 1) := by decide +kernel
theorem dX12_keepsAct_81 : decode cX12_keepsAct 81 = .ok (.iinc 1 1, 3) := by decide +kernel
theorem dX12_keepsAct_84 : decode cX12_keepsAct 84 = .ok (.goto (-32), 3) := by decide +kernel
theorem dX12_keepsAct_87 : decode cX12_keepsAct 87 = .ok (.aload_n 0, 1) := by decide +kernel
theorem dX12_keepsAct_88 : decode cX12_keepsAct 88 = .ok (.dup, 1) := by decide +kernel
theorem dX12_keepsAct_89 : decode cX12_keepsAct 89 = .ok (.getfield 283, 3) := by decide +kernel
theorem dX12_keepsAct_92 : decode cX12_keepsAct 92 = .ok (.iconst 1, 1) := by decide +kernel
theorem dX12_keepsAct_93 : decode cX12_keepsAct 93 = .ok (.iadd, 1) := by decide +kernel
theorem dX12_keepsAct_94 : decode cX12_keepsAct 94 = .ok (.putfield 283, 3) := by decide +kernel
theorem dX12_keepsAct_97 : decode cX12_keepsAct 97 = .ok (.return_, 1) := by decide +kernel
theorem dX12_pointsOf_0 : decode cX12_pointsOf 0 = .ok (.iconst 0, 1) := by decide +kernel
theorem dX12_pointsOf_1 : decode cX12_pointsOf 1 = .ok (.istore_n 2, 1) := by decide +kernel
theorem dX12_pointsOf_2 : decode cX12_pointsOf 2 = .ok (.iconst 0, 1) := by decide +kernel
theorem dX12_pointsOf_3 : decode cX12_pointsOf 3 = .ok (.istore_n 3, 1) := by decide +kernel
theorem dX12_pointsOf_4 : decode cX12_pointsOf 4 = .ok (.iload_n 3, 1) := by decide +kernel
theorem dX12_pointsOf_5 : decode cX12_pointsOf 5 = .ok (.aload_n 0, 1) := by decide +kernel
theorem dX12_pointsOf_6 : decode cX12_pointsOf 6 = .ok (.getfield 39, 3) := by decide +kernel
theorem dX12_pointsOf_9 : decode cX12_pointsOf 9 = .ok (.iconst 3, 1) := by decide +kernel
theorem dX12_pointsOf_10 : decode cX12_pointsOf 10 = .ok (.iaload, 1) := by decide +kernel
theorem dX12_pointsOf_11 : decode cX12_pointsOf 11 = .ok (.if_icmp .ge 57, 3) := by decide +kernel
theorem dX12_pointsOf_14 : decode cX12_pointsOf 14 = .ok (.iconst 0, 1) := by decide +kernel
theorem dX12_pointsOf_15 : decode cX12_pointsOf 15 = .ok (.istore 4, 2) := by decide +kernel
theorem dX12_pointsOf_17 : decode cX12_pointsOf 17 = .ok (.iload 4, 2) := by decide +kernel
theorem dX12_pointsOf_19 : decode cX12_pointsOf 19 = .ok (.aload_n 0, 1) := by decide +kernel
theorem dX12_pointsOf_20 : decode cX12_pointsOf 20 = .ok (.getfield 39, 3) := by decide +kernel
theorem dX12_pointsOf_23 : decode cX12_pointsOf 23 = .ok (.iconst 3, 1) := by decide +kernel
theorem dX12_pointsOf_24 : decode cX12_pointsOf 24 = .ok (.iaload, 1) := by decide +kernel
theorem dX12_pointsOf_25 : decode cX12_pointsOf 25 = .ok (.if_icmp .ge 37, 3) := by decide +kernel
theorem dX12_pointsOf_28 : decode cX12_pointsOf 28 = .ok (.iload_n 2, 1) := by decide +kernel
theorem dX12_pointsOf_29 : decode cX12_pointsOf 29 = .ok (.aload_n 0, 1) := by decide +kernel
theorem dX12_pointsOf_30 : decode cX12_pointsOf 30 = .ok (.iload 4, 2) := by decide +kernel
theorem dX12_pointsOf_32 : decode cX12_pointsOf 32 = .ok (.invokevirtual 314, 3) := by decide +kernel
theorem dX12_pointsOf_35 : decode cX12_pointsOf 35 = .ok (.ifCond .eq 18, 3) := by decide +kernel
theorem dX12_pointsOf_38 : decode cX12_pointsOf 38 = .ok (.aload_n 0, 1) := by decide +kernel
theorem dX12_pointsOf_39 : decode cX12_pointsOf 39 = .ok (.iload_n 3, 1) := by decide +kernel
theorem dX12_pointsOf_40 : decode cX12_pointsOf 40 = .ok (.iload_n 1, 1) := by decide +kernel
theorem dX12_pointsOf_41 : decode cX12_pointsOf 41 = .ok (.iload 4, 2) := by decide +kernel
theorem dX12_pointsOf_43 : decode cX12_pointsOf 43 = .ok (.invokevirtual 400, 3) := by decide +kernel
theorem dX12_pointsOf_46 : decode cX12_pointsOf 46 = .ok (.ifCond .eq 7, 3) := by decide +kernel
theorem dX12_pointsOf_49 : decode cX12_pointsOf 49 = .ok (.iconst 1, 1) := by decide +kernel
theorem dX12_pointsOf_50 : decode cX12_pointsOf 50 = .ok (.goto 4, 3) := by decide +kernel
theorem dX12_pointsOf_53 : decode cX12_pointsOf 53 = .ok (.iconst 0, 1) := by decide +kernel
theorem dX12_pointsOf_54 : decode cX12_pointsOf 54 = .ok (.iadd, 1) := by decide +kernel
theorem dX12_pointsOf_55 : decode cX12_pointsOf 55 = .ok (.istore_n 2, 1) := by decide +kernel
theorem dX12_pointsOf_56 : decode cX12_pointsOf 56 = .ok (.iinc 4 1, 3) := by decide +kernel
theorem dX12_pointsOf_59 : decode cX12_pointsOf 59 = .ok (.goto (-42), 3) := by decide +kernel
theorem dX12_pointsOf_62 : decode cX12_pointsOf 62 = .ok (.iinc 3 1, 3) := by decide +kernel
theorem dX12_pointsOf_65 : decode cX12_pointsOf 65 = .ok (.goto (-61), 3) := by decide +kernel
theorem dX12_pointsOf_68 : decode cX12_pointsOf 68 = .ok (.iload_n 2, 1) := by decide +kernel
theorem dX12_pointsOf_69 : decode cX12_pointsOf 69 = .ok (.ireturn, 1) := by decide +kernel
theorem li_52 : (52 : Int32).toInt = 52 := by decide
theorem li_840 : (840 : Int32).toInt = 840 := by decide
set_option maxHeartbeats 4000000 in
set_option maxRecDepth 100000 in
theorem t_X12_best (l : Launch) (dC : Nat → ClassId) (dI : Nat → Nat → Nat) (tys : List (ClassId × FieldType)) (κ : tK) (B : Nat) (ws : va_W) (hT : Ty κ tys B ws) (a0 : Nat) (k_a0 : κ a0 = some 12) (a1 : Int32) (sz : Nat) : Met l yX12_best (ws_u yX12_best cX12_best 4 (some .int)) ({ frames := 2, cells := 0, slots := 0, locals := 43 }) (va_Pc [.ref a0, .int a1] (cPre (dC, dI) tys ws sz)) (va_Qi (fun (r : Int32) (w : va_W) => Ty κ tys B w ∧ Sm [] [] κ ws w) (fun w t => cPost (dC, dI) tys w (va_A ws sz) t) (va_A ws sz)) 0 0 (va_A ws sz) := by
  refine Met.ofW (cc := cX12_best) (maxL := 4) (ret := (some .int)) (by decide) rfl ?_
  intro p e s m args below meth c s₁ B0 hml hv
  obtain ⟨rfl, hsz, hP, hK, hD0, hE⟩ := hv
  have hx := B0.exec
  have hb := B0.bytes
  have hr := B0.returns
  have hts0 := atoms_spec (ws := ws_u yX12_best cX12_best 4 (some .int)) B0.pre
  have hts : ∀ w ∈ gT, w.before _ s = true := fun w h => hts0 w (List.mem_cons_of_mem _ h)
  have hown : s.vm.findClass RX12 = some m.cls := findClass_of_methodNamed B0.named
  have hlocks := B0.notSynchronized
  subst hsz
  have hD := hD0.self (sz := s.heap.size)
  generalize hAe : va_A ws s.heap.size = A at hD ⊢
  have hA : ∀ q : Nat, s.heap.size ≤ q → A q := fun q h => by rw [← hAe]; exact Or.inr h
  have hw : tW (dC, dI) tys κ B A s ws s.heap [] := ⟨hK, hP, hD, va_S.rf, hT⟩
  have hM : Sm [] [] κ ws ws := Sm.rf
  clear hP hK hD hD0 hts0
  have l_a1 := i32_lo a1
  have h_a1 := i32_hi a1
  have hl := lv_entry ([.ref a0, .int a1]) (n := 4) (Nat.le_of_ble_eq_true rfl)
  rw [lg_entry_eq]
  generalize (lg_sl ([.ref a0, .int a1]) ++ List.replicate (4 - (lg_sl ([.ref a0, .int a1])).length) Slot.unset).toArray = ls at hl ⊢
  have hl : lv_has ls 4 [(0, .ref a0), (1, .int a1)] := hl
  refine t_start (fun QQ hQ => ?_)
  refine lv_aload_n hx hb dX12_best_0 rfl (lv_at hl 0 rfl) ?_
  refine t_calli (va_runV (As := []) (rest := []) ⟨hx, hb, hml, hown, hts⟩ (t_X12_isChoir l dC dI tys κ B ws hw.2.2.2.2 a0 k_a0 s.heap.size) (cwV 0 hts (gUV tw_1489 tw_1491 ts_5_12 tw_13 tw_1492) rfl rfl rfl (by decide +kernel) ⟨(Nat.le_of_ble_eq_true rfl), (Nat.le_of_ble_eq_true rfl)⟩) ⟨cPre.blind, t_recv hw (ci := 12) k_a0 rfl rfl, cPre.use hw.2.1 hw.1 hw.2.2.1 hE⟩ rfl rfl hl.1 rfl (lv_room (Nat.le_of_ble_eq_true rfl)) dX12_best_1 ⟨(Nat.le_of_ble_eq_true rfl), (Nat.le_of_ble_eq_true rfl)⟩) hw hA (fun _ _ h => h.2.2.1) (fun v1 w_1 H locs hp hw => ?_)
  obtain ⟨l_v1, h_v1, _, hm⟩ := hp
  have hM := hM.trans hm (by decide) (by decide)
  refine lv_if_eq (tgt := 17) hx hb dX12_best_4 (by decide) (fun c_4 => ?_) (fun c_4 => ?_)
  · simp only [fa_lt, fa_le, fa_eq, li_0] at c_4
    refine lv_iconst (v := (-1)) hx hb dX12_best_17 (by decide) ?_
    rw [hQ]
    refine W.widen (k := 0) (n := 0) (Nat.le_refl _) (Nat.le_refl _) ?_
    exact W.iret (v := (-1)) hx hb hr (fun t ht hW => ⟨⟨(-1), w_1, rfl, ⟨hw.2.2.2.2, hM⟩, by rw [ht]; exact hw.2.1, va_K.moved hW.alike hw.1, hw.2.2.1⟩, hw.2.2.2.1.F ht⟩) hw.2.2.2.1.2.2 dX12_best_18
  · simp only [fa_lt, fa_le, fa_eq, li_0] at c_4
    refine lv_iload_n hx hb dX12_best_7 rfl (lv_at hl 1 rfl) ?_
    refine lv_i2l hx hb dX12_best_8 rfl ?_
    refine lv_topl (fun v8 e_v8 => ?_)
    have t_v8 : v8.toInt = a1.toInt := by rw [e_v8, Int32.toInt_toInt64]
    refine lv_lconst (v := 0) hx hb dX12_best_9 (by decide) ?_
    obtain ⟨v9, e_v9⟩ : ∃ y : Int64, y = 0 := ⟨_, rfl⟩
    refine W.eq (g2 := F0 m 10 ls [.long v9, .long v8]) (by rw [e_v9]) ?_
    have t_v9 : v9.toInt = 0 := by rw [e_v9]; decide
    refine lv_lconst (v := 1) hx hb dX12_best_10 (by decide) ?_
    obtain ⟨v10, e_v10⟩ : ∃ y : Int64, y = 1 := ⟨_, rfl⟩
    refine W.eq (g2 := F0 m 11 ls [.long v10, .long v9, .long v8]) (by rw [e_v10]) ?_
    have t_v10 : v10.toInt = 1 := by rw [e_v10]; decide
    refine t_calli (va_runS (As := [.long v8, .long v9, .long v10]) (rest := []) ⟨hx, hb, hml, hown, hts⟩ (t_X12_in l dC dI tys κ B w_1 hw.2.2.2.2 v8 v9 v10 H.size) (va_cwS 3 hts (gUS tw_1316 tw_1317 tw_13 tw_1318) rfl rfl rfl (by decide +kernel) ⟨(Nat.le_of_ble_eq_true rfl), (Nat.le_of_ble_eq_true rfl)⟩) ⟨cPre.blind, cPre.use hw.2.1 hw.1 hw.2.2.1 hE⟩ rfl rfl hl.1 rfl (lv_room (Nat.le_of_ble_eq_true rfl)) dX12_best_11 ⟨(Nat.le_of_ble_eq_true rfl), (Nat.le_of_ble_eq_true rfl)⟩) hw hA (fun _ _ h => h.2.2.1) (fun v11 w_2 H locs hp hw => ?_)
    obtain ⟨l_v11, h_v11, _, hm, x_v11_0⟩ := hp
    have hM := hM.trans hm (by decide) (by decide)
    refine lv_if_ne (tgt := 19) hx hb dX12_best_14 (by decide) (fun c_14 => ?_) (fun c_14 => ?_)
    · simp only [fa_lt, fa_le, fa_eq, li_0] at c_14
      refine lv_bipush (v := (-2)) hx hb dX12_best_19 (by decide) ?_
      refine lv_istore_n (lv' := [(2, .int (-2)), (0, .ref a0), (1, .int a1)]) hx hb dX12_best_21 rfl hl (by decide) rfl (fun ls hl => ?_)
      refine lv_iconst (v := 0) hx hb dX12_best_22 (by decide) ?_
      refine lv_istore_n (lv' := [(3, .int 0), (2, .int (-2)), (0, .ref a0), (1, .int a1)]) hx hb dX12_best_23 rfl hl (by decide) rfl (fun ls hl => ?_)
      have J24 : ∀ (n : Nat) (H : Heap) (locs : List Loc) (ls : Array Slot), (∃ (w24 : va_W) (p24_l2 : Int32) (p24_l3 : Int32), tW (dC, dI) tys κ B A s w24 H locs ∧ Sm [] [] κ ws w24 ∧ (-2) ≤ p24_l2.toInt ∧ p24_l2.toInt ≤ 3 ∧ 0 ≤ p24_l3.toInt ∧ p24_l3.toInt ≤ 4 ∧ lv_has ls 4 [(0, .ref a0), (1, .int a1), (2, .int p24_l2), (3, .int p24_l3)] ∧ (4 - p24_l3.toInt).toNat = n) → W p l e (headSpec (ws_u yX12_best cX12_best 4 (some .int)) ({ frames := 2, cells := 0, slots := 0, locals := 43 })).room s m ([.ref a0, .int a1] : List Value).toArray below meth c H locs 0 0 QQ (F0 m 24 ls []) := by
        refine loopT _ ?_
        intro n_24 H locs ls hI ih_24
        obtain ⟨w24, p24_l2, p24_l3, hw, hM, l_p24_l2, h_p24_l2, l_p24_l3, h_p24_l3, hl, hn_24⟩ := hI
        refine lv_iload_n hx hb dX12_best_24 rfl (lv_at hl 3 rfl) ?_
        refine lv_aload_n hx hb dX12_best_25 rfl (lv_at hl 0 rfl) ?_
        refine t_getr (k1 := 63) (ci := 12) (C := RX12) (T := TX12) (N := 38) hx hb hts iX12 hown hw k_a0 rfl rfl rfl 20 (by decide) (hts _ tw_1145) (fun _ h9 => h9) dX12_best_26 rfl (fun v26 k_v26 f_a0_X12_20 => ?_)
        refine lv_iconst (v := 4) hx hb dX12_best_29 (by decide) ?_
        refine t_iald hx hb hw k_v26 rfl rfl (by decide) (by decide) dX12_best_30 (fun v30 r_v30 s_v30 f_v26_M_said_4 => ?_)
        have l_v30 : 0 ≤ v30.toInt := by rw [iv_63_4] at r_v30; exact r_v30
        have h_v30 : v30.toInt ≤ 4 := by rw [iv_63_4] at s_v30; exact s_v30
        refine lv_icmp_ge (tgt := 69) hx hb dX12_best_31 (by decide) (fun c_31 => ?_) (fun c_31 => ?_)
        · simp only [fa_lt, fa_le, fa_eq] at c_31
          refine lv_iload_n hx hb dX12_best_69 rfl (lv_at hl 1 rfl) ?_
          have J77 : ∀ (H : Heap) (locs : List Loc) (ls : Array Slot) (w77 : va_W), tW (dC, dI) tys κ B A s w77 H locs → Sm [] [] κ ws w77 → fld w77 a0 12 20 (.ref v26) → elt w77 v26 (4 : Int32).toInt.toNat v30 → lv_has ls 4 [(0, .ref a0), (1, .int a1), (2, .int p24_l2), (3, .int p24_l3)] → W p l e (headSpec (ws_u yX12_best cX12_best 4 (some .int)) ({ frames := 2, cells := 0, slots := 0, locals := 43 })).room s m ([.ref a0, .int a1] : List Value).toArray below meth c H locs 0 0 QQ (F0 m 77 ls []) := by
            intro H locs ls w77 hw hM f_a0_X12_20 f_v26_M_said_4 hl
            refine lv_iload_n hx hb dX12_best_77 rfl (lv_at hl 2 rfl) ?_
            rw [hQ]
            refine W.widen (k := 0) (n := 0) (Nat.le_refl _) (Nat.le_refl _) ?_
            exact W.iret (v := p24_l2) hx hb hr (fun t ht hW => ⟨⟨p24_l2, w77, rfl, ⟨hw.2.2.2.2, hM⟩, by rw [ht]; exact hw.2.1, va_K.moved hW.alike hw.1, hw.2.2.1⟩, hw.2.2.2.1.F ht⟩) hw.2.2.2.1.2.2 dX12_best_78
          refine lv_if_eq (tgt := 77) hx hb dX12_best_70 (by decide) (fun c_70 => ?_) (fun c_70 => ?_)
          · simp only [fa_lt, fa_le, fa_eq, li_0] at c_70
            exact J77 _ _ _ w24 hw hM f_a0_X12_20 f_v26_M_said_4 (lv_sub hl [0, 1, 2, 3] rfl)
          · simp only [fa_lt, fa_le, fa_eq, li_0] at c_70
            refine lv_iload_n hx hb dX12_best_73 rfl (lv_at hl 2 rfl) ?_
            refine lv_if_ge (tgt := 79) hx hb dX12_best_74 (by decide) (fun c_74 => ?_) (fun c_74 => ?_)
            · simp only [fa_lt, fa_le, fa_eq, li_0] at c_74
              refine lv_bipush (v := 10) hx hb dX12_best_79 (by decide) ?_
              refine lv_bipush (v := 100) hx hb dX12_best_81 (by decide) ?_
              refine lv_aload_n hx hb dX12_best_83 rfl (lv_at hl 0 rfl) ?_
              refine lv_iload_n hx hb dX12_best_84 rfl (lv_at hl 2 rfl) ?_
              refine lv_iconst (v := 0) hx hb dX12_best_85 (by decide) ?_
              refine t_calli (va_runV (As := [.int p24_l2, .int 0]) (rest := [.int 100, .int 10]) ⟨hx, hb, hml, hown, hts⟩ (t_X12_canonOf l dC dI tys κ B w24 hw.2.2.2.2 a0 k_a0 p24_l2 (by omega) (by omega) 0 (by decide) (by decide) H.size) (cwV 2 hts (gUV tw_1469 tw_1471 ts_5_10 tw_13 tw_1472) rfl rfl rfl (by decide +kernel) ⟨(Nat.le_of_ble_eq_true rfl), (Nat.le_of_ble_eq_true rfl)⟩) ⟨cPre.blind, t_recv hw (ci := 12) k_a0 rfl rfl, cPre.use hw.2.1 hw.1 hw.2.2.1 hE⟩ rfl rfl hl.1 rfl (lv_room (Nat.le_of_ble_eq_true rfl)) dX12_best_86 ⟨(Nat.le_of_ble_eq_true rfl), (Nat.le_of_ble_eq_true rfl)⟩) hw hA (fun _ _ h => h.1) (fun v86 w_3 H locs hp hw => ?_)
              obtain ⟨_, hm⟩ := hp
              have l_v86 := i32_lo v86
              have h_v86 := i32_hi v86
              have hM := hM.trans hm (by decide) (by decide)
              have f_a0_X12_20 := hm.1 _ _ _ _ f_a0_X12_20 (by decide)
              have f_v26_M_said_4 := hm.elt k_v26 (by decide) f_v26_M_said_4
              refine lv_isub hx hb dX12_best_89 ?_
              refine lv_topi (fun v89 e_v89 => ?_)
              have l_v89 := i32_lo v89
              have h_v89 := i32_hi v89
              refine lv_imul hx hb dX12_best_90 ?_
              refine lv_topi (fun v90 e_v90 => ?_)
              have l_v90 := i32_lo v90
              have h_v90 := i32_hi v90
              refine lv_aload_n hx hb dX12_best_91 rfl (lv_at hl 0 rfl) ?_
              refine t_getk (ci := 12) (C := RX12) (T := TX12) (N := 38) hx hb hts iX12 hown hw rfl 20 (by decide) (hts _ tw_1145) (fun _ h9 => h9) dX12_best_92 f_a0_X12_20 ?_
              refine lv_bipush (v := 10) hx hb dX12_best_95 (by decide) ?_
              refine t_iald hx hb hw k_v26 rfl rfl (by decide) (by decide) dX12_best_97 (fun v97 r_v97 s_v97 f_v26_M_said_10 => ?_)
              have l_v97 : 0 ≤ v97.toInt := by rw [iv_63_10] at r_v97; exact r_v97
              have h_v97 : v97.toInt ≤ 1999 := by rw [iv_63_10] at s_v97; exact s_v97
              refine lv_bipush (v := 10) hx hb dX12_best_98 (by decide) ?_
              refine lv_irem hx hb dX12_best_100 (ne_i li_10 (by decide)) ?_
              refine lv_topi (fun v100 e_v100 => ?_)
              have e_v100 : v100.toInt = v97.toInt % 10 := rm_i e_v100 rfl li_10 (by omega) (by decide)
              refine lv_isub hx hb dX12_best_101 ?_
              refine lv_topi (fun v101 e_v101 => ?_)
              have l_v101 := i32_lo v101
              have h_v101 := i32_hi v101
              rw [hQ]
              refine W.widen (k := 0) (n := 0) (Nat.le_refl _) (Nat.le_refl _) ?_
              exact W.iret (v := v101) hx hb hr (fun t ht hW => ⟨⟨v101, w_3, rfl, ⟨hw.2.2.2.2, hM⟩, by rw [ht]; exact hw.2.1, va_K.moved hW.alike hw.1, hw.2.2.1⟩, hw.2.2.2.1.F ht⟩) hw.2.2.2.1.2.2 dX12_best_102
            · simp only [fa_lt, fa_le, fa_eq, li_0] at c_74
              exact J77 _ _ _ w24 hw hM f_a0_X12_20 f_v26_M_said_4 (lv_sub hl [0, 1, 2, 3] rfl)
        · simp only [fa_lt, fa_le, fa_eq] at c_31
          refine lv_aload_n hx hb dX12_best_34 rfl (lv_at hl 0 rfl) ?_
          refine lv_iload_n hx hb dX12_best_35 rfl (lv_at hl 3 rfl) ?_
          refine t_calli (va_runV (As := [.int p24_l3]) (rest := []) ⟨hx, hb, hml, hown, hts⟩ (t_X12_isAlive l dC dI tys κ B w24 hw.2.2.2.2 a0 k_a0 p24_l3 H.size) (cwV 1 hts (gUV tw_1571 tw_1573 ts_6_15 tw_13 tw_1574) rfl rfl rfl (by decide +kernel) ⟨(Nat.le_of_ble_eq_true rfl), (Nat.le_of_ble_eq_true rfl)⟩) ⟨cPre.blind, t_recv hw (ci := 12) k_a0 rfl rfl, cPre.use hw.2.1 hw.1 hw.2.2.1 hE⟩ rfl rfl hl.1 rfl (lv_room (Nat.le_of_ble_eq_true rfl)) dX12_best_36 ⟨(Nat.le_of_ble_eq_true rfl), (Nat.le_of_ble_eq_true rfl)⟩) hw hA (fun _ _ h => h.2.2.1) (fun v36 w_4 H locs hp hw => ?_)
          obtain ⟨l_v36, h_v36, _, hm, x_v36_0⟩ := hp
          have hM := hM.trans hm (by decide) (by decide)
          have f_a0_X12_20 := hm.1 _ _ _ _ f_a0_X12_20 (by decide)
          have f_v26_M_said_4 := hm.elt k_v26 (by decide) f_v26_M_said_4
          have J63 : ∀ (H : Heap) (locs : List Loc) (ls : Array Slot) (w63 : va_W) (p63_l2 : Int32), tW (dC, dI) tys κ B A s w63 H locs → Sm [] [] κ ws w63 → (-2) ≤ p63_l2.toInt → p63_l2.toInt ≤ 3 → fld w63 a0 12 20 (.ref v26) → elt w63 v26 (4 : Int32).toInt.toNat v30 → lv_has ls 4 [(0, .ref a0), (1, .int a1), (2, .int p63_l2), (3, .int p24_l3)] → W p l e (headSpec (ws_u yX12_best cX12_best 4 (some .int)) ({ frames := 2, cells := 0, slots := 0, locals := 43 })).room s m ([.ref a0, .int a1] : List Value).toArray below meth c H locs 0 0 QQ (F0 m 63 ls []) := by
            intro H locs ls w63 p63_l2 hw hM l_p63_l2 h_p63_l2 f_a0_X12_20 f_v26_M_said_4 hl
            obtain ⟨v63, e_v63⟩ : ∃ y : Int32, y = p24_l3 + 1 := ⟨_, rfl⟩
            refine lv_iinc (v := v63) (lv' := [(3, .int v63), (0, .ref a0), (1, .int a1), (2, .int p63_l2)]) hx hb dX12_best_63 hl (k := 3) rfl e_v63.symm (by decide) rfl (fun ls hl => ?_)
            have e_v63 : v63.toInt = p24_l3.toInt + 1 := ad_i e_v63 rfl li_1 (by omega) (by omega)
            refine lv_goto (tgt := 24) hx hb dX12_best_66 (by decide) ?_
            exact ih_24 _ _ _ _ (by omega) ⟨w63, p63_l2, v63, hw, hM, (by omega), (by omega), (by omega), (by omega), (lv_sub hl [1, 2, 3, 0] rfl), rfl⟩
          refine lv_if_eq (tgt := 63) hx hb dX12_best_39 (by decide) (fun c_39 => ?_) (fun c_39 => ?_)
          · simp only [fa_lt, fa_le, fa_eq, li_0] at c_39
            exact J63 _ _ _ w_4 p24_l2 hw hM (by omega) (by omega) f_a0_X12_20 f_v26_M_said_4 (lv_sub hl [0, 1, 2, 3] rfl)
          · simp only [fa_lt, fa_le, fa_eq, li_0] at c_39
            refine lv_iload_n hx hb dX12_best_42 rfl (lv_at hl 2 rfl) ?_
            have J61 : ∀ (H : Heap) (locs : List Loc) (ls : Array Slot) (w61 : va_W), tW (dC, dI) tys κ B A s w61 H locs → Sm [] [] κ ws w61 → fld w61 a0 12 20 (.ref v26) → elt w61 v26 (4 : Int32).toInt.toNat v30 → lv_has ls 4 [(0, .ref a0), (1, .int a1), (2, .int p24_l2), (3, .int p24_l3)] → W p l e (headSpec (ws_u yX12_best cX12_best 4 (some .int)) ({ frames := 2, cells := 0, slots := 0, locals := 43 })).room s m ([.ref a0, .int a1] : List Value).toArray below meth c H locs 0 0 QQ (F0 m 61 ls []) := by
              intro H locs ls w61 hw hM f_a0_X12_20 f_v26_M_said_4 hl
              refine lv_iload_n hx hb dX12_best_61 rfl (lv_at hl 3 rfl) ?_
              refine lv_istore_n (lv' := [(2, .int p24_l3), (0, .ref a0), (1, .int a1), (3, .int p24_l3)]) hx hb dX12_best_62 rfl hl (by decide) rfl (fun ls hl => ?_)
              exact J63 _ _ _ w61 p24_l3 hw hM (by omega) (by omega) f_a0_X12_20 f_v26_M_said_4 (lv_sub hl [1, 2, 0, 3] rfl)
            refine lv_if_lt (tgt := 61) hx hb dX12_best_43 (by decide) (fun c_43 => ?_) (fun c_43 => ?_)
            · simp only [fa_lt, fa_le, fa_eq, li_0] at c_43
              exact J61 _ _ _ w_4 hw hM f_a0_X12_20 f_v26_M_said_4 (lv_sub hl [0, 1, 2, 3] rfl)
            · simp only [fa_lt, fa_le, fa_eq, li_0] at c_43
              refine lv_aload_n hx hb dX12_best_46 rfl (lv_at hl 0 rfl) ?_
              refine lv_iload_n hx hb dX12_best_47 rfl (lv_at hl 3 rfl) ?_
              refine lv_iconst (v := 0) hx hb dX12_best_48 (by decide) ?_
              refine t_calli (va_runV (As := [.int p24_l3, .int 0]) (rest := []) ⟨hx, hb, hml, hown, hts⟩ (t_X12_canonOf l dC dI tys κ B w_4 hw.2.2.2.2 a0 k_a0 p24_l3 (by omega) (by omega) 0 (by decide) (by decide) H.size) (cwV 2 hts (gUV tw_1469 tw_1471 ts_5_10 tw_13 tw_1472) rfl rfl rfl (by decide +kernel) ⟨(Nat.le_of_ble_eq_true rfl), (Nat.le_of_ble_eq_true rfl)⟩) ⟨cPre.blind, t_recv hw (ci := 12) k_a0 rfl rfl, cPre.use hw.2.1 hw.1 hw.2.2.1 hE⟩ rfl rfl hl.1 rfl (lv_room (Nat.le_of_ble_eq_true rfl)) dX12_best_49 ⟨(Nat.le_of_ble_eq_true rfl), (Nat.le_of_ble_eq_true rfl)⟩) hw hA (fun _ _ h => h.1) (fun v49 w_5 H locs hp hw => ?_)
              obtain ⟨_, hm⟩ := hp
              have l_v49 := i32_lo v49
              have h_v49 := i32_hi v49
              have hM := hM.trans hm (by decide) (by decide)
              have f_a0_X12_20 := hm.1 _ _ _ _ f_a0_X12_20 (by decide)
              have f_v26_M_said_4 := hm.elt k_v26 (by decide) f_v26_M_said_4
              refine lv_aload_n hx hb dX12_best_52 rfl (lv_at hl 0 rfl) ?_
              refine lv_iload_n hx hb dX12_best_53 rfl (lv_at hl 2 rfl) ?_
              refine lv_iconst (v := 0) hx hb dX12_best_54 (by decide) ?_
              refine t_calli (va_runV (As := [.int p24_l2, .int 0]) (rest := [.int v49]) ⟨hx, hb, hml, hown, hts⟩ (t_X12_canonOf l dC dI tys κ B w_5 hw.2.2.2.2 a0 k_a0 p24_l2 (by omega) (by omega) 0 (by decide) (by decide) H.size) (cwV 2 hts (gUV tw_1469 tw_1471 ts_5_10 tw_13 tw_1472) rfl rfl rfl (by decide +kernel) ⟨(Nat.le_of_ble_eq_true rfl), (Nat.le_of_ble_eq_true rfl)⟩) ⟨cPre.blind, t_recv hw (ci := 12) k_a0 rfl rfl, cPre.use hw.2.1 hw.1 hw.2.2.1 hE⟩ rfl rfl hl.1 rfl (lv_room (Nat.le_of_ble_eq_true rfl)) dX12_best_55 ⟨(Nat.le_of_ble_eq_true rfl), (Nat.le_of_ble_eq_true rfl)⟩) hw hA (fun _ _ h => h.1) (fun v55 w_6 H locs hp hw => ?_)
              obtain ⟨_, hm⟩ := hp
              have l_v55 := i32_lo v55
              have h_v55 := i32_hi v55
              have hM := hM.trans hm (by decide) (by decide)
              have f_a0_X12_20 := hm.1 _ _ _ _ f_a0_X12_20 (by decide)
              have f_v26_M_said_4 := hm.elt k_v26 (by decide) f_v26_M_said_4
              refine lv_icmp_ge (tgt := 63) hx hb dX12_best_58 (by decide) (fun c_58 => ?_) (fun c_58 => ?_)
              · simp only [fa_lt, fa_le, fa_eq] at c_58
                exact J63 _ _ _ w_6 p24_l2 hw hM (by omega) (by omega) f_a0_X12_20 f_v26_M_said_4 (lv_sub hl [0, 1, 2, 3] rfl)
              · simp only [fa_lt, fa_le, fa_eq] at c_58
                exact J61 _ _ _ w_6 hw hM f_a0_X12_20 f_v26_M_said_4 (lv_sub hl [0, 1, 2, 3] rfl)
      exact J24 _ _ _ _ ⟨w_2, (-2), 0, hw, hM, (by decide), (by decide), (by decide), (by decide), (lv_sub hl [2, 3, 1, 0] rfl), rfl⟩
    · simp only [fa_lt, fa_le, fa_eq, li_0] at c_14
      refine lv_iconst (v := (-1)) hx hb dX12_best_17 (by decide) ?_
      rw [hQ]
      refine W.widen (k := 0) (n := 0) (Nat.le_refl _) (Nat.le_refl _) ?_
      exact W.iret (v := (-1)) hx hb hr (fun t ht hW => ⟨⟨(-1), w_2, rfl, ⟨hw.2.2.2.2, hM⟩, by rw [ht]; exact hw.2.1, va_K.moved hW.alike hw.1, hw.2.2.1⟩, hw.2.2.2.1.F ht⟩) hw.2.2.2.1.2.2 dX12_best_18
set_option maxHeartbeats 4000000 in
set_option maxRecDepth 100000 in
theorem t_X12_bits (l : Launch) (dC : Nat → ClassId) (dI : Nat → Nat → Nat) (tys : List (ClassId × FieldType)) (κ : tK) (B : Nat) (ws : va_W) (hT : Ty κ tys B ws) (a0 : Int32) (sz : Nat) : Met l yX12_bits (ws_u yX12_bits cX12_bits 3 (some .int)) ({ frames := 0, cells := 0, slots := 0, locals := 0 }) (va_Pc [.int a0] (cPre (dC, dI) tys ws sz)) (va_Qi (fun (r : Int32) (w : va_W) => Ty κ tys B w ∧ Sm [] [] κ ws w ∧ (a0.toInt ≠ 0 ∨ r.toInt = 0)) (fun w t => cPost (dC, dI) tys w (va_A ws sz) t) (va_A ws sz)) 0 0 (va_A ws sz) := by
  refine Met.ofW (cc := cX12_bits) (maxL := 3) (ret := (some .int)) (by decide) rfl ?_
  intro p e s m args below meth c s₁ B0 hml hv
  obtain ⟨rfl, hsz, hP, hK, hD0, hE⟩ := hv
  have hx := B0.exec
  have hb := B0.bytes
  have hr := B0.returns
  have hts0 := atoms_spec (ws := ws_u yX12_bits cX12_bits 3 (some .int)) B0.pre
  have hts : ∀ w ∈ gT, w.before _ s = true := fun w h => hts0 w (List.mem_cons_of_mem _ h)
  have hown : s.vm.findClass RX12 = some m.cls := findClass_of_methodNamed B0.named
  have hlocks := B0.notSynchronized
  subst hsz
  have hD := hD0.self (sz := s.heap.size)
  generalize hAe : va_A ws s.heap.size = A at hD ⊢
  have hA : ∀ q : Nat, s.heap.size ≤ q → A q := fun q h => by rw [← hAe]; exact Or.inr h
  have hw : tW (dC, dI) tys κ B A s ws s.heap [] := ⟨hK, hP, hD, va_S.rf, hT⟩
  have hM : Sm [] [] κ ws ws := Sm.rf
  clear hP hK hD hD0 hts0
  have l_a0 := i32_lo a0
  have h_a0 := i32_hi a0
  have hl := lv_entry ([.int a0]) (n := 3) (Nat.le_of_ble_eq_true rfl)
  rw [lg_entry_eq]
  generalize (lg_sl ([.int a0]) ++ List.replicate (3 - (lg_sl ([.int a0])).length) Slot.unset).toArray = ls at hl ⊢
  have hl : lv_has ls 3 [(0, .int a0)] := hl
  refine t_start (fun QQ hQ => ?_)
  refine lv_iconst (v := 0) hx hb dX12_bits_0 (by decide) ?_
  refine lv_istore_n (lv' := [(1, .int 0), (0, .int a0)]) hx hb dX12_bits_1 rfl hl (by decide) rfl (fun ls hl => ?_)
  refine lv_iload_n hx hb dX12_bits_2 rfl (lv_at hl 1 rfl) ?_
  refine lv_istore_n (lv' := [(2, .int a0), (1, .int 0), (0, .int a0)]) hx hb dX12_bits_3 rfl hl (by decide) rfl (fun ls hl => ?_)
  have J4 : ∀ (n : Nat) (H : Heap) (locs : List Loc) (ls : Array Slot), (∃ (w4 : va_W) (p4_l1 : Int32) (p4_l2 : Int32), tW (dC, dI) tys κ B A s w4 H locs ∧ Sm [] [] κ ws w4 ∧ (-2147483648) ≤ p4_l1.toInt ∧ p4_l1.toInt ≤ 2147483647 ∧ (-2147483648) ≤ p4_l2.toInt ∧ p4_l2.toInt ≤ 2147483647 ∧ (a0.toInt ≠ 0 ∨ (p4_l2.toInt = 0 ∧ p4_l1.toInt = 0)) ∧ lv_has ls 3 [(0, .int a0), (1, .int p4_l1), (2, .int p4_l2)] ∧ p4_l2.toBitVec.toNat = n) → W p l e (headSpec (ws_u yX12_bits cX12_bits 3 (some .int)) ({ frames := 0, cells := 0, slots := 0, locals := 0 })).room s m ([.int a0] : List Value).toArray below meth c H locs 0 0 QQ (F0 m 4 ls []) := by
    refine loopT _ ?_
    intro n_4 H locs ls hI ih_4
    obtain ⟨w4, p4_l1, p4_l2, hw, hM, l_p4_l1, h_p4_l1, l_p4_l2, h_p4_l2, li_4_0, hl, hn_4⟩ := hI
    refine lv_iload_n hx hb dX12_bits_4 rfl (lv_at hl 2 rfl) ?_
    refine lv_if_eq (tgt := 20) hx hb dX12_bits_5 (by decide) (fun c_5 => ?_) (fun c_5 => ?_)
    · simp only [fa_lt, fa_le, fa_eq, li_0] at c_5
      refine lv_iload_n hx hb dX12_bits_20 rfl (lv_at hl 1 rfl) ?_
      rw [hQ]
      refine W.widen (k := 0) (n := 0) (Nat.le_refl _) (Nat.le_refl _) ?_
      exact W.iret (v := p4_l1) hx hb hr (fun t ht hW => ⟨⟨p4_l1, w4, rfl, ⟨hw.2.2.2.2, hM, (by omega)⟩, by rw [ht]; exact hw.2.1, va_K.moved hW.alike hw.1, hw.2.2.1⟩, hw.2.2.2.1.F ht⟩) hw.2.2.2.1.2.2 dX12_bits_21
    · simp only [fa_lt, fa_le, fa_eq, li_0] at c_5
      obtain ⟨v8, e_v8⟩ : ∃ y : Int32, y = p4_l1 + 1 := ⟨_, rfl⟩
      refine lv_iinc (v := v8) (lv' := [(1, .int v8), (0, .int a0), (2, .int p4_l2)]) hx hb dX12_bits_8 hl (k := 1) rfl e_v8.symm (by decide) rfl (fun ls hl => ?_)
      have l_v8 := i32_lo v8
      have h_v8 := i32_hi v8
      refine lv_iload_n hx hb dX12_bits_11 rfl (lv_at hl 2 rfl) ?_
      refine lv_iload_n hx hb dX12_bits_12 rfl (lv_at hl 2 rfl) ?_
      refine lv_iconst (v := 1) hx hb dX12_bits_13 (by decide) ?_
      refine lv_isub hx hb dX12_bits_14 ?_
      refine lv_topi (fun v14 e_v14 => ?_)
      have l_v14 := i32_lo v14
      have h_v14 := i32_hi v14
      refine lv_iand hx hb dX12_bits_15 ?_
      refine lv_topi (fun v15 e_v15 => ?_)
      have l_v15 := i32_lo v15
      have h_v15 := i32_hi v15
      have hbd := bit_dec e_v14 e_v15 c_5
      refine lv_istore_n (lv' := [(2, .int v15), (1, .int v8), (0, .int a0)]) hx hb dX12_bits_16 rfl hl (by decide) rfl (fun ls hl => ?_)
      refine lv_goto (tgt := 4) hx hb dX12_bits_17 (by decide) ?_
      exact ih_4 _ _ _ _ (by omega) ⟨w4, v8, v15, hw, hM, (by omega), (by omega), (by omega), (by omega), (by omega), (lv_sub hl [2, 1, 0] rfl), rfl⟩
  exact J4 _ _ _ _ ⟨ws, 0, a0, hw, hM, (by decide), (by decide), (by omega), (by omega), (by have := li_0; omega), (lv_sub hl [2, 1, 0] rfl), rfl⟩
set_option maxHeartbeats 4000000 in
set_option maxRecDepth 100000 in
theorem t_X12_boy (l : Launch) (dC : Nat → ClassId) (dI : Nat → Nat → Nat) (tys : List (ClassId × FieldType)) (κ : tK) (B : Nat) (ws : va_W) (hT : Ty κ tys B ws) (a0 : Nat) (k_a0 : κ a0 = some 12) (a1 : Int32) (a2 : Int32) (sz : Nat) : Met l yX12_boy (ws_u yX12_boy cX12_boy 3 (some .int)) ({ frames := 1, cells := 0, slots := 0, locals := 25 }) (va_Pc [.ref a0, .int a1, .int a2] (cPre (dC, dI) tys ws sz)) (va_Qi (fun (r : Int32) (w : va_W) => Ty κ tys B w ∧ Sm [] [] κ ws w) (fun w t => cPost (dC, dI) tys w (va_A ws sz) t) (va_A ws sz)) 0 0 (va_A ws sz) := by
  refine Met.ofW (cc := cX12_boy) (maxL := 3) (ret := (some .int)) (by decide) rfl ?_
  intro p e s m args below meth c s₁ B0 hml hv
  obtain ⟨rfl, hsz, hP, hK, hD0, hE⟩ := hv
  have hx := B0.exec
  have hb := B0.bytes
  have hr := B0.returns
  have hts0 := atoms_spec (ws := ws_u yX12_boy cX12_boy 3 (some .int)) B0.pre
  have hts : ∀ w ∈ gT, w.before _ s = true := fun w h => hts0 w (List.mem_cons_of_mem _ h)
  have hown : s.vm.findClass RX12 = some m.cls := findClass_of_methodNamed B0.named
  have hlocks := B0.notSynchronized
  subst hsz
  have hD := hD0.self (sz := s.heap.size)
  generalize hAe : va_A ws s.heap.size = A at hD ⊢
  have hA : ∀ q : Nat, s.heap.size ≤ q → A q := fun q h => by rw [← hAe]; exact Or.inr h
  have hw : tW (dC, dI) tys κ B A s ws s.heap [] := ⟨hK, hP, hD, va_S.rf, hT⟩
  have hM : Sm [] [] κ ws ws := Sm.rf
  clear hP hK hD hD0 hts0
  have l_a1 := i32_lo a1
  have h_a1 := i32_hi a1
  have l_a2 := i32_lo a2
  have h_a2 := i32_hi a2
  have hl := lv_entry ([.ref a0, .int a1, .int a2]) (n := 3) (Nat.le_of_ble_eq_true rfl)
  rw [lg_entry_eq]
  generalize (lg_sl ([.ref a0, .int a1, .int a2]) ++ List.replicate (3 - (lg_sl ([.ref a0, .int a1, .int a2])).length) Slot.unset).toArray = ls at hl ⊢
  have hl : lv_has ls 3 [(0, .ref a0), (1, .int a1), (2, .int a2)] := hl
  refine t_start (fun QQ hQ => ?_)
  refine lv_aload_n hx hb dX12_boy_0 rfl (lv_at hl 0 rfl) ?_
  refine lv_iload_n hx hb dX12_boy_1 rfl (lv_at hl 1 rfl) ?_
  refine t_calli (va_runV (As := [.int a1]) (rest := []) ⟨hx, hb, hml, hown, hts⟩ (t_X12_isBoy l dC dI tys κ B ws hw.2.2.2.2 a0 k_a0 a1 s.heap.size) (cwV 1 hts (gUV tw_1448 tw_1450 ts_5_7 tw_13 tw_1451) rfl rfl rfl (by decide +kernel) ⟨(Nat.le_of_ble_eq_true rfl), (Nat.le_of_ble_eq_true rfl)⟩) ⟨cPre.blind, t_recv hw (ci := 12) k_a0 rfl rfl, cPre.use hw.2.1 hw.1 hw.2.2.1 hE⟩ rfl rfl hl.1 rfl (lv_room (Nat.le_of_ble_eq_true rfl)) dX12_boy_2 ⟨(Nat.le_of_ble_eq_true rfl), (Nat.le_of_ble_eq_true rfl)⟩) hw hA (fun _ _ h => h.2.2.1) (fun v2 w_1 H locs hp hw => ?_)
  obtain ⟨l_v2, h_v2, _, hm, x_v2_0⟩ := hp
  have hM := hM.trans hm (by decide) (by decide)
  refine lv_if_eq (tgt := 20) hx hb dX12_boy_5 (by decide) (fun c_5 => ?_) (fun c_5 => ?_)
  · simp only [fa_lt, fa_le, fa_eq, li_0] at c_5
    refine lv_iconst (v := (-1)) hx hb dX12_boy_20 (by decide) ?_
    rw [hQ]
    refine W.widen (k := 0) (n := 0) (Nat.le_refl _) (Nat.le_refl _) ?_
    exact W.iret (v := (-1)) hx hb hr (fun t ht hW => ⟨⟨(-1), w_1, rfl, ⟨hw.2.2.2.2, hM⟩, by rw [ht]; exact hw.2.1, va_K.moved hW.alike hw.1, hw.2.2.1⟩, hw.2.2.2.1.F ht⟩) hw.2.2.2.1.2.2 dX12_boy_21
  · simp only [fa_lt, fa_le, fa_eq, li_0] at c_5
    refine lv_iload_n hx hb dX12_boy_8 rfl (lv_at hl 2 rfl) ?_
    refine lv_i2l hx hb dX12_boy_9 rfl ?_
    refine lv_topl (fun v9 e_v9 => ?_)
    have t_v9 : v9.toInt = a2.toInt := by rw [e_v9, Int32.toInt_toInt64]
    refine lv_lconst (v := 0) hx hb dX12_boy_10 (by decide) ?_
    obtain ⟨v10, e_v10⟩ : ∃ y : Int64, y = 0 := ⟨_, rfl⟩
    refine W.eq (g2 := F0 m 11 ls [.long v10, .long v9]) (by rw [e_v10]) ?_
    have t_v10 : v10.toInt = 0 := by rw [e_v10]; decide
    refine lv_ldc2 (v := 3) hx hb hown (hts _ tw_1452) dX12_boy_11 ?_
    refine lv_topl (fun v11 e_v11 => ?_)
    have t_v11 : v11.toInt = 3 := by rw [e_v11]; decide
    refine t_calli (va_runS (As := [.long v9, .long v10, .long v11]) (rest := []) ⟨hx, hb, hml, hown, hts⟩ (t_X12_in l dC dI tys κ B w_1 hw.2.2.2.2 v9 v10 v11 H.size) (va_cwS 3 hts (gUS tw_1316 tw_1317 tw_13 tw_1318) rfl rfl rfl (by decide +kernel) ⟨(Nat.le_of_ble_eq_true rfl), (Nat.le_of_ble_eq_true rfl)⟩) ⟨cPre.blind, cPre.use hw.2.1 hw.1 hw.2.2.1 hE⟩ rfl rfl hl.1 rfl (lv_room (Nat.le_of_ble_eq_true rfl)) dX12_boy_14 ⟨(Nat.le_of_ble_eq_true rfl), (Nat.le_of_ble_eq_true rfl)⟩) hw hA (fun _ _ h => h.2.2.1) (fun v14 w_2 H locs hp hw => ?_)
    obtain ⟨l_v14, h_v14, _, hm, x_v14_0⟩ := hp
    have hM := hM.trans hm (by decide) (by decide)
    refine lv_if_ne (tgt := 22) hx hb dX12_boy_17 (by decide) (fun c_17 => ?_) (fun c_17 => ?_)
    · simp only [fa_lt, fa_le, fa_eq, li_0] at c_17
      refine lv_iload_n hx hb dX12_boy_22 rfl (lv_at hl 2 rfl) ?_
      refine lv_iconst (v := 2) hx hb dX12_boy_23 (by decide) ?_
      refine lv_icmp_ge (tgt := 36) hx hb dX12_boy_24 (by decide) (fun c_24 => ?_) (fun c_24 => ?_)
      · simp only [fa_lt, fa_le, fa_eq, li_2] at c_24
        refine lv_iload_n hx hb dX12_boy_36 rfl (lv_at hl 2 rfl) ?_
        refine lv_iconst (v := 2) hx hb dX12_boy_37 (by decide) ?_
        refine lv_icmp_ne (tgt := 53) hx hb dX12_boy_38 (by decide) (fun c_38 => ?_) (fun c_38 => ?_)
        · simp only [fa_lt, fa_le, fa_eq, li_2] at c_38
          refine lv_aload_n hx hb dX12_boy_53 rfl (lv_at hl 0 rfl) ?_
          refine lv_iload_n hx hb dX12_boy_54 rfl (lv_at hl 1 rfl) ?_
          refine lv_iconst (v := 2) hx hb dX12_boy_55 (by decide) ?_
          refine t_calli (va_runV (As := [.int a1, .int 2]) (rest := []) ⟨hx, hb, hml, hown, hts⟩ (t_X12_boyOf l dC dI tys κ B w_2 hw.2.2.2.2 a0 k_a0 a1 (by omega) (by omega) 2 (by decide) (by decide) H.size) (cwV 2 hts (gUV tw_1453 tw_1455 ts_5_8 tw_13 tw_1456) rfl rfl rfl (by decide +kernel) ⟨(Nat.le_of_ble_eq_true rfl), (Nat.le_of_ble_eq_true rfl)⟩) ⟨cPre.blind, t_recv hw (ci := 12) k_a0 rfl rfl, cPre.use hw.2.1 hw.1 hw.2.2.1 hE⟩ rfl rfl hl.1 rfl (lv_room (Nat.le_of_ble_eq_true rfl)) dX12_boy_56 ⟨(Nat.le_of_ble_eq_true rfl), (Nat.le_of_ble_eq_true rfl)⟩) hw hA (fun _ _ h => h.1) (fun v56 w_3 H locs hp hw => ?_)
          obtain ⟨_, hm⟩ := hp
          have l_v56 := i32_lo v56
          have h_v56 := i32_hi v56
          have hM := hM.trans hm (by decide) (by decide)
          rw [hQ]
          refine W.widen (k := 0) (n := 0) (Nat.le_refl _) (Nat.le_refl _) ?_
          exact W.iret (v := v56) hx hb hr (fun t ht hW => ⟨⟨v56, w_3, rfl, ⟨hw.2.2.2.2, hM⟩, by rw [ht]; exact hw.2.1, va_K.moved hW.alike hw.1, hw.2.2.1⟩, hw.2.2.2.1.F ht⟩) hw.2.2.2.1.2.2 dX12_boy_59
        · simp only [fa_lt, fa_le, fa_eq, li_2] at c_38
          refine lv_aload_n hx hb dX12_boy_41 rfl (lv_at hl 0 rfl) ?_
          refine t_getr (k1 := 63) (ci := 12) (C := RX12) (T := TX12) (N := 38) hx hb hts iX12 hown hw k_a0 rfl rfl rfl 20 (by decide) (hts _ tw_1145) (fun _ h9 => h9) dX12_boy_42 rfl (fun v42 k_v42 f_a0_X12_20 => ?_)
          refine lv_bipush (v := 52) hx hb dX12_boy_45 (by decide) ?_
          refine lv_iload_n hx hb dX12_boy_47 rfl (lv_at hl 1 rfl) ?_
          refine lv_iadd hx hb dX12_boy_48 ?_
          refine lv_topi (fun v48 e_v48 => ?_)
          have e_v48 : v48.toInt = 52 + a1.toInt := ad_i e_v48 li_52 rfl (by omega) (by omega)
          refine t_iald hx hb hw k_v42 rfl rfl (by omega) (show v48.toInt < 306 by omega) dX12_boy_49 (fun v49 r_v49 s_v49 q_v49 => ?_)
          have l_v49 := i32_lo v49
          have h_v49 := i32_hi v49
          refine lv_goto (tgt := 59) hx hb dX12_boy_50 (by decide) ?_
          rw [hQ]
          refine W.widen (k := 0) (n := 0) (Nat.le_refl _) (Nat.le_refl _) ?_
          exact W.iret (v := v49) hx hb hr (fun t ht hW => ⟨⟨v49, w_2, rfl, ⟨hw.2.2.2.2, hM⟩, by rw [ht]; exact hw.2.1, va_K.moved hW.alike hw.1, hw.2.2.1⟩, hw.2.2.2.1.F ht⟩) hw.2.2.2.1.2.2 dX12_boy_59
      · simp only [fa_lt, fa_le, fa_eq, li_2] at c_24
        refine lv_aload_n hx hb dX12_boy_27 rfl (lv_at hl 0 rfl) ?_
        refine lv_iload_n hx hb dX12_boy_28 rfl (lv_at hl 1 rfl) ?_
        refine lv_iload_n hx hb dX12_boy_29 rfl (lv_at hl 2 rfl) ?_
        refine t_calli (va_runV (As := [.int a1, .int a2]) (rest := []) ⟨hx, hb, hml, hown, hts⟩ (t_X12_boyOf l dC dI tys κ B w_2 hw.2.2.2.2 a0 k_a0 a1 (by omega) (by omega) a2 (by omega) (by omega) H.size) (cwV 2 hts (gUV tw_1453 tw_1455 ts_5_8 tw_13 tw_1456) rfl rfl rfl (by decide +kernel) ⟨(Nat.le_of_ble_eq_true rfl), (Nat.le_of_ble_eq_true rfl)⟩) ⟨cPre.blind, t_recv hw (ci := 12) k_a0 rfl rfl, cPre.use hw.2.1 hw.1 hw.2.2.1 hE⟩ rfl rfl hl.1 rfl (lv_room (Nat.le_of_ble_eq_true rfl)) dX12_boy_30 ⟨(Nat.le_of_ble_eq_true rfl), (Nat.le_of_ble_eq_true rfl)⟩) hw hA (fun _ _ h => h.1) (fun v30 w_4 H locs hp hw => ?_)
        obtain ⟨_, hm⟩ := hp
        have l_v30 := i32_lo v30
        have h_v30 := i32_hi v30
        have hM := hM.trans hm (by decide) (by decide)
        refine lv_goto (tgt := 59) hx hb dX12_boy_33 (by decide) ?_
        rw [hQ]
        refine W.widen (k := 0) (n := 0) (Nat.le_refl _) (Nat.le_refl _) ?_
        exact W.iret (v := v30) hx hb hr (fun t ht hW => ⟨⟨v30, w_4, rfl, ⟨hw.2.2.2.2, hM⟩, by rw [ht]; exact hw.2.1, va_K.moved hW.alike hw.1, hw.2.2.1⟩, hw.2.2.2.1.F ht⟩) hw.2.2.2.1.2.2 dX12_boy_59
    · simp only [fa_lt, fa_le, fa_eq, li_0] at c_17
      refine lv_iconst (v := (-1)) hx hb dX12_boy_20 (by decide) ?_
      rw [hQ]
      refine W.widen (k := 0) (n := 0) (Nat.le_refl _) (Nat.le_refl _) ?_
      exact W.iret (v := (-1)) hx hb hr (fun t ht hW => ⟨⟨(-1), w_2, rfl, ⟨hw.2.2.2.2, hM⟩, by rw [ht]; exact hw.2.1, va_K.moved hW.alike hw.1, hw.2.2.1⟩, hw.2.2.2.1.F ht⟩) hw.2.2.2.1.2.2 dX12_boy_21
set_option maxHeartbeats 4000000 in
set_option maxRecDepth 100000 in
theorem t_X12_keepsAct (l : Launch) (dC : Nat → ClassId) (dI : Nat → Nat → Nat) (tys : List (ClassId × FieldType)) (κ : tK) (B : Nat) (ws : va_W) (hT : Ty κ tys B ws) (a0 : Nat) (k_a0 : κ a0 = some 12) (f0 : Nat) (k_f0 : κ f0 = some 63) (f_a0_X12_20 : fld ws a0 12 20 (.ref f0)) (f1 : Int32) (l_f1 : 0 ≤ f1.toInt) (h_f1 : f1.toInt ≤ 999) (f_f0_M_said_10 : elt ws f0 (10 : Int32).toInt.toNat f1) (sz : Nat) : Met l yX12_keepsAct (ws_u yX12_keepsAct cX12_keepsAct 2 none) ({ frames := 0, cells := 0, slots := 0, locals := 0 }) (va_Pc [.ref a0] (cPre (dC, dI) tys ws sz)) (va_Qv (fun (w : va_W) => Ty κ tys B w ∧ Sm [(12, 26)] [65] κ ws w) (fun w t => cPost (dC, dI) tys w (va_A ws sz) t) (va_A ws sz)) 0 0 (va_A ws sz) := by
  refine Met.ofW (cc := cX12_keepsAct) (maxL := 2) (ret := none) (by decide) rfl ?_
  intro p e s m args below meth c s₁ B0 hml hv
  obtain ⟨rfl, hsz, hP, hK, hD0, hE⟩ := hv
  have hx := B0.exec
  have hb := B0.bytes
  have hr := B0.returns
  have hts0 := atoms_spec (ws := ws_u yX12_keepsAct cX12_keepsAct 2 none) B0.pre
  have hts : ∀ w ∈ gT, w.before _ s = true := fun w h => hts0 w (List.mem_cons_of_mem _ h)
  have hown : s.vm.findClass RX12 = some m.cls := findClass_of_methodNamed B0.named
  have hlocks := B0.notSynchronized
  subst hsz
  have hD := hD0.self (sz := s.heap.size)
  generalize hAe : va_A ws s.heap.size = A at hD ⊢
  have hA : ∀ q : Nat, s.heap.size ≤ q → A q := fun q h => by rw [← hAe]; exact Or.inr h
  have hw : tW (dC, dI) tys κ B A s ws s.heap [] := ⟨hK, hP, hD, va_S.rf, hT⟩
  have hM : Sm [(12, 26)] [65] κ ws ws := Sm.rf
  clear hP hK hD hD0 hts0
  have hl := lv_entry ([.ref a0]) (n := 2) (Nat.le_of_ble_eq_true rfl)
  rw [lg_entry_eq]
  generalize (lg_sl ([.ref a0]) ++ List.replicate (2 - (lg_sl ([.ref a0])).length) Slot.unset).toArray = ls at hl ⊢
  have hl : lv_has ls 2 [(0, .ref a0)] := hl
  refine t_start (fun QQ hQ => ?_)
  refine lv_aload_n hx hb dX12_keepsAct_0 rfl (lv_at hl 0 rfl) ?_
  refine t_geti (ci := 12) (C := RX12) (T := TX12) (N := 38) hx hb hts iX12 hown hw k_a0 rfl rfl rfl 26 (by decide) (hts _ tw_1151) (fun _ h9 => h9) dX12_keepsAct_1 rfl (fun v1 l_v1 h_v1 f_a0_X12_26 => ?_)
  have l_v1 : 0 ≤ v1.toInt := l_v1
  have h_v1 : v1.toInt ≤ 20 := h_v1
  refine lv_bipush (v := 20) hx hb dX12_keepsAct_4 (by decide) ?_
  have J50 : ∀ (H : Heap) (locs : List Loc) (ls : Array Slot) (w50 : va_W) (p50_m_a0_X12_26 : Int32), tW (dC, dI) tys κ B A s w50 H locs → Sm [(12, 26)] [65] κ ws w50 → 0 ≤ p50_m_a0_X12_26.toInt → p50_m_a0_X12_26.toInt ≤ 19 → fld w50 a0 12 20 (.ref f0) → fld w50 a0 12 26 (.int p50_m_a0_X12_26) → elt w50 f0 (10 : Int32).toInt.toNat f1 → lv_has ls 2 [(0, .ref a0)] → W p l e (headSpec (ws_u yX12_keepsAct cX12_keepsAct 2 none) ({ frames := 0, cells := 0, slots := 0, locals := 0 })).room s m ([.ref a0] : List Value).toArray below meth c H locs 0 0 QQ (F0 m 50 ls []) := by
    intro H locs ls w50 p50_m_a0_X12_26 hw hM l_p50_m_a0_X12_26 h_p50_m_a0_X12_26 f_a0_X12_20 f_a0_X12_26 f_f0_M_said_10 hl
    refine lv_iconst (v := 0) hx hb dX12_keepsAct_50 (by decide) ?_
    refine lv_istore_n (lv' := [(1, .int 0), (0, .ref a0)]) hx hb dX12_keepsAct_51 rfl hl (by decide) rfl (fun ls hl => ?_)
    have J52 : ∀ (n : Nat) (H : Heap) (locs : List Loc) (ls : Array Slot), (∃ (w52 : va_W) (p52_l1 : Int32), tW (dC, dI) tys κ B A s w52 H locs ∧ Sm [(12, 26)] [65] κ ws w52 ∧ 0 ≤ p52_l1.toInt ∧ p52_l1.toInt ≤ 42 ∧ fld w52 a0 12 20 (.ref f0) ∧ fld w52 a0 12 26 (.int p50_m_a0_X12_26) ∧ elt w52 f0 (10 : Int32).toInt.toNat f1 ∧ lv_has ls 2 [(0, .ref a0), (1, .int p52_l1)] ∧ (42 - p52_l1.toInt).toNat = n) → W p l e (headSpec (ws_u yX12_keepsAct cX12_keepsAct 2 none) ({ frames := 0, cells := 0, slots := 0, locals := 0 })).room s m ([.ref a0] : List Value).toArray below meth c H locs 0 0 QQ (F0 m 52 ls []) := by
      refine loopT _ ?_
      intro n_52 H locs ls hI ih_52
      obtain ⟨w52, p52_l1, hw, hM, l_p52_l1, h_p52_l1, f_a0_X12_20, f_a0_X12_26, f_f0_M_said_10, hl, hn_52⟩ := hI
      refine lv_iload_n hx hb dX12_keepsAct_52 rfl (lv_at hl 1 rfl) ?_
      refine lv_bipush (v := 42) hx hb dX12_keepsAct_53 (by decide) ?_
      refine lv_icmp_ge (tgt := 87) hx hb dX12_keepsAct_55 (by decide) (fun c_55 => ?_) (fun c_55 => ?_)
      · simp only [fa_lt, fa_le, fa_eq, li_42] at c_55
        refine lv_aload_n hx hb dX12_keepsAct_87 rfl (lv_at hl 0 rfl) ?_
        refine lv_dup hx hb dX12_keepsAct_88 rfl ?_
        refine t_getk (ci := 12) (C := RX12) (T := TX12) (N := 38) hx hb hts iX12 hown hw rfl 26 (by decide) (hts _ tw_1151) (fun _ h9 => h9) dX12_keepsAct_89 f_a0_X12_26 ?_
        refine lv_iconst (v := 1) hx hb dX12_keepsAct_92 (by decide) ?_
        refine lv_iadd hx hb dX12_keepsAct_93 ?_
        refine lv_topi (fun v93 e_v93 => ?_)
        have e_v93 : v93.toInt = p50_m_a0_X12_26.toInt + 1 := ad_i e_v93 rfl li_1 (by omega) (by omega)
        refine t_put (ci := 12) (C := RX12) (T := TX12) (N := 38) (v := .int v93) hx hb hts iX12 tyX12 tyX12_ok nmX12 hown hw k_a0 rfl rfl rfl 26 (by decide) (hts _ tw_1151) (fun _ h9 => h9) rfl (tyX12_ok 26 (by decide)) rfl rfl (okV.int rfl (by omega) (by omega)) dX12_keepsAct_94 (fun w_1 H locs hw u => ?_)
        have hM := hM.up1 u (by decide)
        have f_a0_X12_20 := u.1 _ _ _ _ f_a0_X12_20 (Or.inr (Or.inr (by decide)))
        have f_a0_X12_26 := u.2.2
        have f_f0_M_said_10 := u.elt f_f0_M_said_10
        rw [hQ]
        refine W.widen (k := 0) (n := 0) (Nat.le_refl _) (Nat.le_refl _) ?_
        exact W.vret hx hb hr (fun t ht hW => ⟨⟨w_1, rfl, ⟨hw.2.2.2.2, hM⟩, by rw [ht]; exact hw.2.1, va_K.moved hW.alike hw.1, hw.2.2.1⟩, hw.2.2.2.1.F ht⟩) hw.2.2.2.1.2.2 dX12_keepsAct_97
      · simp only [fa_lt, fa_le, fa_eq, li_42] at c_55
        refine lv_aload_n hx hb dX12_keepsAct_58 rfl (lv_at hl 0 rfl) ?_
        refine t_getr (k1 := 65) (ci := 12) (C := RX12) (T := TX12) (N := 38) hx hb hts iX12 hown hw k_a0 rfl rfl rfl 25 (by decide) (hts _ tw_1150) (fun _ h9 => h9) dX12_keepsAct_59 rfl (fun v59 k_v59 f_a0_X12_25 => ?_)
        refine lv_bipush (v := 42) hx hb dX12_keepsAct_62 (by decide) ?_
        refine lv_aload_n hx hb dX12_keepsAct_64 rfl (lv_at hl 0 rfl) ?_
        refine t_getk (ci := 12) (C := RX12) (T := TX12) (N := 38) hx hb hts iX12 hown hw rfl 26 (by decide) (hts _ tw_1151) (fun _ h9 => h9) dX12_keepsAct_65 f_a0_X12_26 ?_
        refine lv_imul hx hb dX12_keepsAct_68 ?_
        refine lv_topi (fun v68 e_v68 => ?_)
        have e_v68 : v68.toInt = 42 * p50_m_a0_X12_26.toInt := ml_i e_v68 li_42 rfl (by omega) (by omega)
        refine lv_iload_n hx hb dX12_keepsAct_69 rfl (lv_at hl 1 rfl) ?_
        refine lv_iadd hx hb dX12_keepsAct_70 ?_
        refine lv_topi (fun v70 e_v70 => ?_)
        have e_v70 : v70.toInt = v68.toInt + p52_l1.toInt := ad_i e_v70 rfl rfl (by omega) (by omega)
        refine lv_aload_n hx hb dX12_keepsAct_71 rfl (lv_at hl 0 rfl) ?_
        refine t_getk (ci := 12) (C := RX12) (T := TX12) (N := 38) hx hb hts iX12 hown hw rfl 20 (by decide) (hts _ tw_1145) (fun _ h9 => h9) dX12_keepsAct_72 f_a0_X12_20 ?_
        refine lv_bipush (v := 10) hx hb dX12_keepsAct_75 (by decide) ?_
        refine lv_iload_n hx hb dX12_keepsAct_77 rfl (lv_at hl 1 rfl) ?_
        refine lv_iadd hx hb dX12_keepsAct_78 ?_
        refine lv_topi (fun v78 e_v78 => ?_)
        have e_v78 : v78.toInt = 10 + p52_l1.toInt := ad_i e_v78 li_10 rfl (by omega) (by omega)
        refine t_iald hx hb hw k_f0 rfl rfl (by omega) (show v78.toInt < 306 by omega) dX12_keepsAct_79 (fun v79 r_v79 s_v79 q_v79 => ?_)
        have l_v79 := i32_lo v79
        have h_v79 := i32_hi v79
        have hs_v70 : (aiv B 65 v70.toInt.toNat).1 ≤ v79.toInt ∧ v79.toInt ≤ (aiv B 65 v70.toInt.toNat).2 := by
          rw [aiv_said] at r_v79 s_v79
          rw [aiv_was, show 10 + v70.toInt.toNat % 42 = v78.toInt.toNat by omega]
          exact ivS_down r_v79 s_v79 (fun hz => by rw [hz] at q_v79; rw [elt_eq hw.2.2.1 q_v79 f_f0_M_said_10]; omega)
        refine t_iast hx hb hw k_v59 rfl rfl (by omega) (show v70.toInt < 840 by omega) hs_v70.1 hs_v70.2 dX12_keepsAct_80 (fun w_2 H locs hw u => ?_)
        have hM := hM.up3 u k_v59 (by decide)
        have f_a0_X12_20 := u.1 _ _ _ _ f_a0_X12_20
        have f_a0_X12_26 := u.1 _ _ _ _ f_a0_X12_26
        have f_f0_M_said_10 := u.2.2.1 _ _ _ f_f0_M_said_10 (Or.inl (ne_k k_f0 k_v59 (by decide)))
        have f_a0_X12_25 := u.1 _ _ _ _ f_a0_X12_25
        obtain ⟨v81, e_v81⟩ : ∃ y : Int32, y = p52_l1 + 1 := ⟨_, rfl⟩
        refine lv_iinc (v := v81) (lv' := [(1, .int v81), (0, .ref a0)]) hx hb dX12_keepsAct_81 hl (k := 1) rfl e_v81.symm (by decide) rfl (fun ls hl => ?_)
        have e_v81 : v81.toInt = p52_l1.toInt + 1 := ad_i e_v81 rfl li_1 (by omega) (by omega)
        refine lv_goto (tgt := 52) hx hb dX12_keepsAct_84 (by decide) ?_
        exact ih_52 _ _ _ _ (by omega) ⟨w_2, v81, hw, hM, (by omega), (by omega), f_a0_X12_20, f_a0_X12_26, f_f0_M_said_10, (lv_sub hl [1, 0] rfl), rfl⟩
    exact J52 _ _ _ _ ⟨w50, 0, hw, hM, (by decide), (by decide), f_a0_X12_20, f_a0_X12_26, f_f0_M_said_10, (lv_sub hl [1, 0] rfl), rfl⟩
  refine lv_icmp_ne (tgt := 50) hx hb dX12_keepsAct_6 (by decide) (fun c_6 => ?_) (fun c_6 => ?_)
  · simp only [fa_lt, fa_le, fa_eq, li_20] at c_6
    exact J50 _ _ _ ws v1 hw hM (by omega) (by omega) f_a0_X12_20 f_a0_X12_26 f_f0_M_said_10 (lv_sub hl [0] rfl)
  · simp only [fa_lt, fa_le, fa_eq, li_20] at c_6
    refine lv_bipush (v := 42) hx hb dX12_keepsAct_9 (by decide) ?_
    refine lv_istore_n (lv' := [(1, .int 42), (0, .ref a0)]) hx hb dX12_keepsAct_11 rfl hl (by decide) rfl (fun ls hl => ?_)
    have J12 : ∀ (n : Nat) (H : Heap) (locs : List Loc) (ls : Array Slot), (∃ (w12 : va_W) (p12_l1 : Int32), tW (dC, dI) tys κ B A s w12 H locs ∧ Sm [(12, 26)] [65] κ ws w12 ∧ 42 ≤ p12_l1.toInt ∧ p12_l1.toInt ≤ 840 ∧ fld w12 a0 12 20 (.ref f0) ∧ fld w12 a0 12 26 (.int v1) ∧ elt w12 f0 (10 : Int32).toInt.toNat f1 ∧ lv_has ls 2 [(0, .ref a0), (1, .int p12_l1)] ∧ (840 - p12_l1.toInt).toNat = n) → W p l e (headSpec (ws_u yX12_keepsAct cX12_keepsAct 2 none) ({ frames := 0, cells := 0, slots := 0, locals := 0 })).room s m ([.ref a0] : List Value).toArray below meth c H locs 0 0 QQ (F0 m 12 ls []) := by
      refine loopT _ ?_
      intro n_12 H locs ls hI ih_12
      obtain ⟨w12, p12_l1, hw, hM, l_p12_l1, h_p12_l1, f_a0_X12_20, f_a0_X12_26, f_f0_M_said_10, hl, hn_12⟩ := hI
      refine lv_iload_n hx hb dX12_keepsAct_12 rfl (lv_at hl 1 rfl) ?_
      refine lv_sipush (v := 840) hx hb dX12_keepsAct_13 (by decide) ?_
      refine lv_icmp_ge (tgt := 40) hx hb dX12_keepsAct_16 (by decide) (fun c_16 => ?_) (fun c_16 => ?_)
      · simp only [fa_lt, fa_le, fa_eq, li_840] at c_16
        refine lv_aload_n hx hb dX12_keepsAct_40 rfl (lv_at hl 0 rfl) ?_
        refine lv_dup hx hb dX12_keepsAct_41 rfl ?_
        refine t_getk (ci := 12) (C := RX12) (T := TX12) (N := 38) hx hb hts iX12 hown hw rfl 26 (by decide) (hts _ tw_1151) (fun _ h9 => h9) dX12_keepsAct_42 f_a0_X12_26 ?_
        refine lv_iconst (v := 1) hx hb dX12_keepsAct_45 (by decide) ?_
        refine lv_isub hx hb dX12_keepsAct_46 ?_
        refine lv_topi (fun v46 e_v46 => ?_)
        have e_v46 : v46.toInt = v1.toInt - 1 := sb_i e_v46 rfl li_1 (by omega) (by omega)
        refine t_put (ci := 12) (C := RX12) (T := TX12) (N := 38) (v := .int v46) hx hb hts iX12 tyX12 tyX12_ok nmX12 hown hw k_a0 rfl rfl rfl 26 (by decide) (hts _ tw_1151) (fun _ h9 => h9) rfl (tyX12_ok 26 (by decide)) rfl rfl (okV.int rfl (by omega) (by omega)) dX12_keepsAct_47 (fun w_3 H locs hw u => ?_)
        have hM := hM.up1 u (by decide)
        have f_a0_X12_20 := u.1 _ _ _ _ f_a0_X12_20 (Or.inr (Or.inr (by decide)))
        have f_a0_X12_26 := u.2.2
        have f_f0_M_said_10 := u.elt f_f0_M_said_10
        exact J50 _ _ _ w_3 v46 hw hM (by omega) (by omega) f_a0_X12_20 f_a0_X12_26 f_f0_M_said_10 (lv_sub hl [0] rfl)
      · simp only [fa_lt, fa_le, fa_eq, li_840] at c_16
        refine lv_aload_n hx hb dX12_keepsAct_19 rfl (lv_at hl 0 rfl) ?_
        refine t_getr (k1 := 65) (ci := 12) (C := RX12) (T := TX12) (N := 38) hx hb hts iX12 hown hw k_a0 rfl rfl rfl 25 (by decide) (hts _ tw_1150) (fun _ h9 => h9) dX12_keepsAct_20 rfl (fun v20 k_v20 f_a0_X12_25 => ?_)
        refine lv_iload_n hx hb dX12_keepsAct_23 rfl (lv_at hl 1 rfl) ?_
        refine lv_bipush (v := 42) hx hb dX12_keepsAct_24 (by decide) ?_
        refine lv_isub hx hb dX12_keepsAct_26 ?_
        refine lv_topi (fun v26 e_v26 => ?_)
        have e_v26 : v26.toInt = p12_l1.toInt - 42 := sb_i e_v26 rfl li_42 (by omega) (by omega)
        refine lv_aload_n hx hb dX12_keepsAct_27 rfl (lv_at hl 0 rfl) ?_
        refine t_getk (ci := 12) (C := RX12) (T := TX12) (N := 38) hx hb hts iX12 hown hw rfl 25 (by decide) (hts _ tw_1150) (fun _ h9 => h9) dX12_keepsAct_28 f_a0_X12_25 ?_
        refine lv_iload_n hx hb dX12_keepsAct_31 rfl (lv_at hl 1 rfl) ?_
        refine t_iald hx hb hw k_v20 rfl rfl (by omega) (show p12_l1.toInt < 840 by omega) dX12_keepsAct_32 (fun v32 r_v32 s_v32 q_v32 => ?_)
        have l_v32 := i32_lo v32
        have h_v32 := i32_hi v32
        have hs_v26 : (aiv B 65 v26.toInt.toNat).1 ≤ v32.toInt ∧ v32.toInt ≤ (aiv B 65 v26.toInt.toNat).2 := by
          rw [aiv_was] at r_v32 s_v32
          rw [aiv_was, show v26.toInt.toNat % 42 = p12_l1.toInt.toNat % 42 by omega]
          exact ⟨r_v32, s_v32⟩
        refine t_iast hx hb hw k_v20 rfl rfl (by omega) (show v26.toInt < 840 by omega) hs_v26.1 hs_v26.2 dX12_keepsAct_33 (fun w_4 H locs hw u => ?_)
        have hM := hM.up3 u k_v20 (by decide)
        have f_a0_X12_20 := u.1 _ _ _ _ f_a0_X12_20
        have f_a0_X12_26 := u.1 _ _ _ _ f_a0_X12_26
        have f_f0_M_said_10 := u.2.2.1 _ _ _ f_f0_M_said_10 (Or.inl (ne_k k_f0 k_v20 (by decide)))
        have f_a0_X12_25 := u.1 _ _ _ _ f_a0_X12_25
        obtain ⟨v34, e_v34⟩ : ∃ y : Int32, y = p12_l1 + 1 := ⟨_, rfl⟩
        refine lv_iinc (v := v34) (lv' := [(1, .int v34), (0, .ref a0)]) hx hb dX12_keepsAct_34 hl (k := 1) rfl e_v34.symm (by decide) rfl (fun ls hl => ?_)
        have e_v34 : v34.toInt = p12_l1.toInt + 1 := ad_i e_v34 rfl li_1 (by omega) (by omega)
        refine lv_goto (tgt := 12) hx hb dX12_keepsAct_37 (by decide) ?_
        exact ih_12 _ _ _ _ (by omega) ⟨w_4, v34, hw, hM, (by omega), (by omega), f_a0_X12_20, f_a0_X12_26, f_f0_M_said_10, (lv_sub hl [1, 0] rfl), rfl⟩
    exact J12 _ _ _ _ ⟨ws, 42, hw, hM, (by decide), (by decide), f_a0_X12_20, f_a0_X12_26, f_f0_M_said_10, (lv_sub hl [1, 0] rfl), rfl⟩
set_option maxHeartbeats 4000000 in
set_option maxRecDepth 100000 in
theorem t_X12_breaks (l : Launch) (dC : Nat → ClassId) (dI : Nat → Nat → Nat) (tys : List (ClassId × FieldType)) (κ : tK) (B : Nat) (ws : va_W) (hT : Ty κ tys B ws) (a0 : Nat) (k_a0 : κ a0 = some 12) (a1 : Int32) (f0 : Nat) (k_f0 : κ f0 = some 63) (f_a0_X12_20 : fld ws a0 12 20 (.ref f0)) (f1 : Int32) (l_f1 : 0 ≤ f1.toInt) (h_f1 : f1.toInt ≤ 999) (f_f0_M_said_10 : elt ws f0 (10 : Int32).toInt.toNat f1) (sz : Nat) : Met l yX12_breaks (ws_u yX12_breaks cX12_breaks 3 (some .int)) ({ frames := 2, cells := 0, slots := 0, locals := 43 }) (va_Pc [.ref a0, .int a1] (cPre (dC, dI) tys ws sz)) (va_Qi (fun (r : Int32) (w : va_W) => Ty κ tys B w ∧ Sm [(12, 26)] [63, 65] κ ws w ∧ elt w f0 (10 : Int32).toInt.toNat f1) (fun w t => cPost (dC, dI) tys w (va_A ws sz) t) (va_A ws sz)) 0 0 (va_A ws sz) := by
  refine Met.ofW (cc := cX12_breaks) (maxL := 3) (ret := (some .int)) (by decide) rfl ?_
  intro p e s m args below meth c s₁ B0 hml hv
  obtain ⟨rfl, hsz, hP, hK, hD0, hE⟩ := hv
  have hx := B0.exec
  have hb := B0.bytes
  have hr := B0.returns
  have hts0 := atoms_spec (ws := ws_u yX12_breaks cX12_breaks 3 (some .int)) B0.pre
  have hts : ∀ w ∈ gT, w.before _ s = true := fun w h => hts0 w (List.mem_cons_of_mem _ h)
  have hown : s.vm.findClass RX12 = some m.cls := findClass_of_methodNamed B0.named
  have hlocks := B0.notSynchronized
  subst hsz
  have hD := hD0.self (sz := s.heap.size)
  generalize hAe : va_A ws s.heap.size = A at hD ⊢
  have hA : ∀ q : Nat, s.heap.size ≤ q → A q := fun q h => by rw [← hAe]; exact Or.inr h
  have hw : tW (dC, dI) tys κ B A s ws s.heap [] := ⟨hK, hP, hD, va_S.rf, hT⟩
  have hM : Sm [(12, 26)] [63, 65] κ ws ws := Sm.rf
  clear hP hK hD hD0 hts0
  have l_a1 := i32_lo a1
  have h_a1 := i32_hi a1
  have hl := lv_entry ([.ref a0, .int a1]) (n := 3) (Nat.le_of_ble_eq_true rfl)
  rw [lg_entry_eq]
  generalize (lg_sl ([.ref a0, .int a1]) ++ List.replicate (3 - (lg_sl ([.ref a0, .int a1])).length) Slot.unset).toArray = ls at hl ⊢
  have hl : lv_has ls 3 [(0, .ref a0), (1, .int a1)] := hl
  refine t_start (fun QQ hQ => ?_)
  refine lv_aload_n hx hb dX12_breaks_0 rfl (lv_at hl 0 rfl) ?_
  refine lv_iload_n hx hb dX12_breaks_1 rfl (lv_at hl 1 rfl) ?_
  refine t_calli (va_runV (As := [.int a1]) (rest := []) ⟨hx, hb, hml, hown, hts⟩ (t_X12_isSound l dC dI tys κ B ws hw.2.2.2.2 a0 k_a0 a1 s.heap.size) (cwV 1 hts (gUV tw_1517 tw_1519 ts_6_3 tw_13 tw_1520) rfl rfl rfl (by decide +kernel) ⟨(Nat.le_of_ble_eq_true rfl), (Nat.le_of_ble_eq_true rfl)⟩) ⟨cPre.blind, t_recv hw (ci := 12) k_a0 rfl rfl, cPre.use hw.2.1 hw.1 hw.2.2.1 hE⟩ rfl rfl hl.1 rfl (lv_room (Nat.le_of_ble_eq_true rfl)) dX12_breaks_2 ⟨(Nat.le_of_ble_eq_true rfl), (Nat.le_of_ble_eq_true rfl)⟩) hw hA (fun _ _ h => h.2.2.1) (fun v2 w_1 H locs hp hw => ?_)
  obtain ⟨l_v2, h_v2, _, hm, x_v2_0⟩ := hp
  have hM := hM.trans hm (by decide) (by decide)
  have f_a0_X12_20 := hm.1 _ _ _ _ f_a0_X12_20 (by decide)
  have f_f0_M_said_10 := hm.elt k_f0 (by decide) f_f0_M_said_10
  refine lv_if_ne (tgt := 10) hx hb dX12_breaks_5 (by decide) (fun c_5 => ?_) (fun c_5 => ?_)
  · simp only [fa_lt, fa_le, fa_eq, li_0] at c_5
    refine lv_aload_n hx hb dX12_breaks_10 rfl (lv_at hl 0 rfl) ?_
    refine t_callv (va_runV (As := []) (rest := []) ⟨hx, hb, hml, hown, hts⟩ (t_X12_keepsAct l dC dI tys κ B w_1 hw.2.2.2.2 a0 k_a0 f0 k_f0 f_a0_X12_20 f1 (by omega) (by omega) f_f0_M_said_10 H.size) (cwV 0 hts (gUV tw_1493 tw_1495 ts_5_13 tw_13 tw_1496) rfl rfl rfl (by decide +kernel) ⟨(Nat.le_of_ble_eq_true rfl), (Nat.le_of_ble_eq_true rfl)⟩) ⟨cPre.blind, t_recv hw (ci := 12) k_a0 rfl rfl, cPre.use hw.2.1 hw.1 hw.2.2.1 hE⟩ rfl rfl hl.1 rfl (lv_room (Nat.le_of_ble_eq_true rfl)) dX12_breaks_11 ⟨(Nat.le_of_ble_eq_true rfl), (Nat.le_of_ble_eq_true rfl)⟩) hw hA (fun _ h => h.1) (fun w_2 H locs hp hw => ?_)
    obtain ⟨_, hm⟩ := hp
    have hM := hM.trans hm (by decide) (by decide)
    have f_a0_X12_20 := hm.1 _ _ _ _ f_a0_X12_20 (by decide)
    have f_f0_M_said_10 := hm.elt k_f0 (by decide) f_f0_M_said_10
    refine lv_aload_n hx hb dX12_breaks_14 rfl (lv_at hl 0 rfl) ?_
    refine lv_iload_n hx hb dX12_breaks_15 rfl (lv_at hl 1 rfl) ?_
    refine lv_iconst (v := 0) hx hb dX12_breaks_16 (by decide) ?_
    refine t_calli (va_runV (As := [.int a1, .int 0]) (rest := []) ⟨hx, hb, hml, hown, hts⟩ (t_X12_boyOf l dC dI tys κ B w_2 hw.2.2.2.2 a0 k_a0 a1 (by omega) (by omega) 0 (by decide) (by decide) H.size) (cwV 2 hts (gUV tw_1453 tw_1455 ts_5_8 tw_13 tw_1456) rfl rfl rfl (by decide +kernel) ⟨(Nat.le_of_ble_eq_true rfl), (Nat.le_of_ble_eq_true rfl)⟩) ⟨cPre.blind, t_recv hw (ci := 12) k_a0 rfl rfl, cPre.use hw.2.1 hw.1 hw.2.2.1 hE⟩ rfl rfl hl.1 rfl (lv_room (Nat.le_of_ble_eq_true rfl)) dX12_breaks_17 ⟨(Nat.le_of_ble_eq_true rfl), (Nat.le_of_ble_eq_true rfl)⟩) hw hA (fun _ _ h => h.1) (fun v17 w_3 H locs hp hw => ?_)
    obtain ⟨_, hm⟩ := hp
    have l_v17 := i32_lo v17
    have h_v17 := i32_hi v17
    have hM := hM.trans hm (by decide) (by decide)
    have f_a0_X12_20 := hm.1 _ _ _ _ f_a0_X12_20 (by decide)
    have f_f0_M_said_10 := hm.elt k_f0 (by decide) f_f0_M_said_10
    refine lv_istore_n (lv' := [(2, .int v17), (0, .ref a0), (1, .int a1)]) hx hb dX12_breaks_20 rfl hl (by decide) rfl (fun ls hl => ?_)
    refine lv_aload_n hx hb dX12_breaks_21 rfl (lv_at hl 1 rfl) ?_
    refine lv_iload_n hx hb dX12_breaks_22 rfl (lv_at hl 2 rfl) ?_
    refine t_callv (va_runV (As := [.int a1]) (rest := []) ⟨hx, hb, hml, hown, hts⟩ (t_X12_breaksVoice l dC dI tys κ B w_3 hw.2.2.2.2 a0 k_a0 a1 (by omega) (by omega) f0 k_f0 f_a0_X12_20 f1 (by omega) (by omega) f_f0_M_said_10 H.size) (cwV 1 hts (gUV tw_1563 tw_1565 ts_6_13 tw_13 tw_1566) rfl rfl rfl (by decide +kernel) ⟨(Nat.le_of_ble_eq_true rfl), (Nat.le_of_ble_eq_true rfl)⟩) ⟨cPre.blind, t_recv hw (ci := 12) k_a0 rfl rfl, cPre.use hw.2.1 hw.1 hw.2.2.1 hE⟩ rfl rfl hl.1 rfl (lv_room (Nat.le_of_ble_eq_true rfl)) dX12_breaks_23 ⟨(Nat.le_of_ble_eq_true rfl), (Nat.le_of_ble_eq_true rfl)⟩) hw hA (fun _ h => h.1) (fun w_4 H locs hp hw => ?_)
    obtain ⟨_, hm, f_f0_M_said_10⟩ := hp
    have hM := hM.trans hm (by decide) (by decide)
    have f_a0_X12_20 := hm.1 _ _ _ _ f_a0_X12_20 (by decide)
    refine lv_iload_n hx hb dX12_breaks_26 rfl (lv_at hl 0 rfl) ?_
    rw [hQ]
    refine W.widen (k := 0) (n := 0) (Nat.le_refl _) (Nat.le_refl _) ?_
    exact W.iret (v := v17) hx hb hr (fun t ht hW => ⟨⟨v17, w_4, rfl, ⟨hw.2.2.2.2, hM, f_f0_M_said_10⟩, by rw [ht]; exact hw.2.1, va_K.moved hW.alike hw.1, hw.2.2.1⟩, hw.2.2.2.1.F ht⟩) hw.2.2.2.1.2.2 dX12_breaks_27
  · simp only [fa_lt, fa_le, fa_eq, li_0] at c_5
    refine lv_iconst (v := (-1)) hx hb dX12_breaks_8 (by decide) ?_
    rw [hQ]
    refine W.widen (k := 0) (n := 0) (Nat.le_refl _) (Nat.le_refl _) ?_
    exact W.iret (v := (-1)) hx hb hr (fun t ht hW => ⟨⟨(-1), w_1, rfl, ⟨hw.2.2.2.2, hM, f_f0_M_said_10⟩, by rw [ht]; exact hw.2.1, va_K.moved hW.alike hw.1, hw.2.2.1⟩, hw.2.2.2.1.F ht⟩) hw.2.2.2.1.2.2 dX12_breaks_9
set_option maxHeartbeats 4000000 in
set_option maxRecDepth 100000 in
theorem t_X12_isOf (l : Launch) (dC : Nat → ClassId) (dI : Nat → Nat → Nat) (tys : List (ClassId × FieldType)) (κ : tK) (B : Nat) (ws : va_W) (hT : Ty κ tys B ws) (a0 : Int32) (a1 : Int32) (l_a1 : 0 ≤ a1.toInt) (h_a1 : a1.toInt ≤ 5) (sz : Nat) : Met l yX12_isOf (ws_u yX12_isOf cX12_isOf 2 (some .boolean)) ({ frames := 0, cells := 0, slots := 0, locals := 0 }) (va_Pc [.int a0, .int a1] (cPre (dC, dI) tys ws sz)) (va_Qi (fun (r : Int32) (w : va_W) => 0 ≤ r.toInt ∧ r.toInt ≤ 1 ∧ Ty κ tys B w ∧ Sm [] [] κ ws w ∧ ((r.toInt = 0 ∨ bitOf a0 a1) ∧ (r.toInt ≠ 0 ∨ ¬ bitOf a0 a1))) (fun w t => cPost (dC, dI) tys w (va_A ws sz) t) (va_A ws sz)) 0 0 (va_A ws sz) := by
  refine Met.ofW (cc := cX12_isOf) (maxL := 2) (ret := (some .boolean)) (by decide) rfl ?_
  intro p e s m args below meth c s₁ B0 hml hv
  obtain ⟨rfl, hsz, hP, hK, hD0, hE⟩ := hv
  have hx := B0.exec
  have hb := B0.bytes
  have hr := B0.returns
  have hts0 := atoms_spec (ws := ws_u yX12_isOf cX12_isOf 2 (some .boolean)) B0.pre
  have hts : ∀ w ∈ gT, w.before _ s = true := fun w h => hts0 w (List.mem_cons_of_mem _ h)
  have hown : s.vm.findClass RX12 = some m.cls := findClass_of_methodNamed B0.named
  have hlocks := B0.notSynchronized
  subst hsz
  have hD := hD0.self (sz := s.heap.size)
  generalize hAe : va_A ws s.heap.size = A at hD ⊢
  have hA : ∀ q : Nat, s.heap.size ≤ q → A q := fun q h => by rw [← hAe]; exact Or.inr h
  have hw : tW (dC, dI) tys κ B A s ws s.heap [] := ⟨hK, hP, hD, va_S.rf, hT⟩
  have hM : Sm [] [] κ ws ws := Sm.rf
  clear hP hK hD hD0 hts0
  have l_a0 := i32_lo a0
  have h_a0 := i32_hi a0
  have hl := lv_entry ([.int a0, .int a1]) (n := 2) (Nat.le_of_ble_eq_true rfl)
  rw [lg_entry_eq]
  generalize (lg_sl ([.int a0, .int a1]) ++ List.replicate (2 - (lg_sl ([.int a0, .int a1])).length) Slot.unset).toArray = ls at hl ⊢
  have hl : lv_has ls 2 [(0, .int a0), (1, .int a1)] := hl
  refine t_start (fun QQ hQ => ?_)
  refine lv_iload_n hx hb dX12_isOf_0 rfl (lv_at hl 0 rfl) ?_
  refine lv_iload_n hx hb dX12_isOf_1 rfl (lv_at hl 1 rfl) ?_
  refine lv_ishr hx hb dX12_isOf_2 ?_
  refine lv_topi (fun v2 e_v2 => ?_)
  have l_v2 := i32_lo v2
  have h_v2 := i32_hi v2
  refine lv_iconst (v := 1) hx hb dX12_isOf_3 (by decide) ?_
  refine lv_iand hx hb dX12_isOf_4 ?_
  refine lv_topi (fun v4 e_v4 => ?_)
  have ⟨l_v4, h_v4⟩ : 0 ≤ v4.toInt ∧ v4.toInt ≤ 1 := and_r e_v4 li_1 (by decide)
  refine lv_iconst (v := 1) hx hb dX12_isOf_5 (by decide) ?_
  refine lv_icmp_ne (tgt := 13) hx hb dX12_isOf_6 (by decide) (fun c_6 => ?_) (fun c_6 => ?_)
  · simp only [fa_lt, fa_le, fa_eq, li_1] at c_6
    refine lv_iconst (v := 0) hx hb dX12_isOf_13 (by decide) ?_
    rw [hQ]
    refine W.widen (k := 0) (n := 0) (Nat.le_refl _) (Nat.le_refl _) ?_
    exact W.zret (v := 0) hx hb hr rfl (fun t ht hW => ⟨⟨0, ws, rfl, ⟨(by decide), (by decide), hw.2.2.2.2, hM, ⟨Or.inl (by decide), Or.inr (by unfold bitOf; rw [← e_v2, ← e_v4]; exact c_6)⟩⟩, by rw [ht]; exact hw.2.1, va_K.moved hW.alike hw.1, hw.2.2.1⟩, hw.2.2.2.1.F ht⟩) hw.2.2.2.1.2.2 dX12_isOf_14
  · simp only [fa_lt, fa_le, fa_eq, li_1] at c_6
    refine lv_iconst (v := 1) hx hb dX12_isOf_9 (by decide) ?_
    refine lv_goto (tgt := 14) hx hb dX12_isOf_10 (by decide) ?_
    rw [hQ]
    refine W.widen (k := 0) (n := 0) (Nat.le_refl _) (Nat.le_refl _) ?_
    exact W.zret (v := 1) hx hb hr rfl (fun t ht hW => ⟨⟨1, ws, rfl, ⟨(by decide), (by decide), hw.2.2.2.2, hM, ⟨Or.inr (by unfold bitOf; rw [← e_v2, ← e_v4]; exact c_6), Or.inl (by decide)⟩⟩, by rw [ht]; exact hw.2.1, va_K.moved hW.alike hw.1, hw.2.2.1⟩, hw.2.2.2.1.F ht⟩) hw.2.2.2.1.2.2 dX12_isOf_14
set_option maxHeartbeats 4000000 in
set_option maxRecDepth 100000 in
theorem t_X12_firstOf (l : Launch) (dC : Nat → ClassId) (dI : Nat → Nat → Nat) (tys : List (ClassId × FieldType)) (κ : tK) (B : Nat) (ws : va_W) (hT : Ty κ tys B ws) (a0 : Nat) (k_a0 : κ a0 = some 12) (a1 : Int32) (l_a1 : 0 ≤ a1.toInt) (h_a1 : a1.toInt ≤ 5) (a2 : Int32) (sz : Nat) : Met l yX12_firstOf (ws_u yX12_firstOf cX12_firstOf 5 (some .int)) ({ frames := 1, cells := 0, slots := 0, locals := 23 }) (va_Pc [.ref a0, .int a1, .int a2] (cPre (dC, dI) tys ws sz)) (va_Qi (fun (r : Int32) (w : va_W) => (-1) ≤ r.toInt ∧ r.toInt ≤ 5 ∧ Ty κ tys B w ∧ Sm [] [] κ ws w) (fun w t => cPost (dC, dI) tys w (va_A ws sz) t) (va_A ws sz)) 0 0 (va_A ws sz) := by
  refine Met.ofW (cc := cX12_firstOf) (maxL := 5) (ret := (some .int)) (by decide) rfl ?_
  intro p e s m args below meth c s₁ B0 hml hv
  obtain ⟨rfl, hsz, hP, hK, hD0, hE⟩ := hv
  have hx := B0.exec
  have hb := B0.bytes
  have hr := B0.returns
  have hts0 := atoms_spec (ws := ws_u yX12_firstOf cX12_firstOf 5 (some .int)) B0.pre
  have hts : ∀ w ∈ gT, w.before _ s = true := fun w h => hts0 w (List.mem_cons_of_mem _ h)
  have hown : s.vm.findClass RX12 = some m.cls := findClass_of_methodNamed B0.named
  have hlocks := B0.notSynchronized
  subst hsz
  have hD := hD0.self (sz := s.heap.size)
  generalize hAe : va_A ws s.heap.size = A at hD ⊢
  have hA : ∀ q : Nat, s.heap.size ≤ q → A q := fun q h => by rw [← hAe]; exact Or.inr h
  have hw : tW (dC, dI) tys κ B A s ws s.heap [] := ⟨hK, hP, hD, va_S.rf, hT⟩
  have hM : Sm [] [] κ ws ws := Sm.rf
  clear hP hK hD hD0 hts0
  have l_a2 := i32_lo a2
  have h_a2 := i32_hi a2
  have hl := lv_entry ([.ref a0, .int a1, .int a2]) (n := 5) (Nat.le_of_ble_eq_true rfl)
  rw [lg_entry_eq]
  generalize (lg_sl ([.ref a0, .int a1, .int a2]) ++ List.replicate (5 - (lg_sl ([.ref a0, .int a1, .int a2])).length) Slot.unset).toArray = ls at hl ⊢
  have hl : lv_has ls 5 [(0, .ref a0), (1, .int a1), (2, .int a2)] := hl
  refine t_start (fun QQ hQ => ?_)
  refine lv_iconst (v := (-1)) hx hb dX12_firstOf_0 (by decide) ?_
  refine lv_istore_n (lv' := [(3, .int (-1)), (0, .ref a0), (1, .int a1), (2, .int a2)]) hx hb dX12_firstOf_1 rfl hl (by decide) rfl (fun ls hl => ?_)
  refine lv_iconst (v := 0) hx hb dX12_firstOf_2 (by decide) ?_
  refine lv_istore (lv' := [(4, .int 0), (3, .int (-1)), (0, .ref a0), (1, .int a1), (2, .int a2)]) hx hb dX12_firstOf_3 hl (by decide) rfl (fun ls hl => ?_)
  have J5 : ∀ (n : Nat) (H : Heap) (locs : List Loc) (ls : Array Slot), (∃ (w5 : va_W) (p5_l3 : Int32) (p5_l4 : Int32), tW (dC, dI) tys κ B A s w5 H locs ∧ Sm [] [] κ ws w5 ∧ (-1) ≤ p5_l3.toInt ∧ p5_l3.toInt ≤ 5 ∧ 0 ≤ p5_l4.toInt ∧ p5_l4.toInt ≤ 6 ∧ lv_has ls 5 [(0, .ref a0), (1, .int a1), (2, .int a2), (3, .int p5_l3), (4, .int p5_l4)] ∧ (6 - p5_l4.toInt).toNat = n) → W p l e (headSpec (ws_u yX12_firstOf cX12_firstOf 5 (some .int)) ({ frames := 1, cells := 0, slots := 0, locals := 23 })).room s m ([.ref a0, .int a1, .int a2] : List Value).toArray below meth c H locs 0 0 QQ (F0 m 5 ls []) := by
    refine loopT _ ?_
    intro n_5 H locs ls hI ih_5
    obtain ⟨w5, p5_l3, p5_l4, hw, hM, l_p5_l3, h_p5_l3, l_p5_l4, h_p5_l4, hl, hn_5⟩ := hI
    refine lv_iload hx hb dX12_firstOf_5 (lv_at hl 4 rfl) ?_
    refine lv_aload_n hx hb dX12_firstOf_7 rfl (lv_at hl 0 rfl) ?_
    refine t_getr (k1 := 63) (ci := 12) (C := RX12) (T := TX12) (N := 38) hx hb hts iX12 hown hw k_a0 rfl rfl rfl 20 (by decide) (hts _ tw_1145) (fun _ h9 => h9) dX12_firstOf_8 rfl (fun v8 k_v8 f_a0_X12_20 => ?_)
    refine lv_iconst (v := 3) hx hb dX12_firstOf_11 (by decide) ?_
    refine t_iald hx hb hw k_v8 rfl rfl (by decide) (by decide) dX12_firstOf_12 (fun v12 r_v12 s_v12 f_v8_M_said_3 => ?_)
    have l_v12 : 0 ≤ v12.toInt := by rw [iv_63_3] at r_v12; exact r_v12
    have h_v12 : v12.toInt ≤ 6 := by rw [iv_63_3] at s_v12; exact s_v12
    refine lv_icmp_ge (tgt := 49) hx hb dX12_firstOf_13 (by decide) (fun c_13 => ?_) (fun c_13 => ?_)
    · simp only [fa_lt, fa_le, fa_eq] at c_13
      refine lv_iload_n hx hb dX12_firstOf_49 rfl (lv_at hl 3 rfl) ?_
      rw [hQ]
      refine W.widen (k := 0) (n := 0) (Nat.le_refl _) (Nat.le_refl _) ?_
      exact W.iret (v := p5_l3) hx hb hr (fun t ht hW => ⟨⟨p5_l3, w5, rfl, ⟨(by omega), (by omega), hw.2.2.2.2, hM⟩, by rw [ht]; exact hw.2.1, va_K.moved hW.alike hw.1, hw.2.2.1⟩, hw.2.2.2.1.F ht⟩) hw.2.2.2.1.2.2 dX12_firstOf_50
    · simp only [fa_lt, fa_le, fa_eq] at c_13
      refine lv_iload_n hx hb dX12_firstOf_16 rfl (lv_at hl 2 rfl) ?_
      refine lv_iload hx hb dX12_firstOf_17 (lv_at hl 4 rfl) ?_
      refine t_calli (va_runS (As := [.int a2, .int p5_l4]) (rest := []) ⟨hx, hb, hml, hown, hts⟩ (t_X12_isOf l dC dI tys κ B w5 hw.2.2.2.2 a2 p5_l4 (by omega) (by omega) H.size) (va_cwS 2 hts (gUS tw_1637 tw_1638 tw_13 tw_1639) rfl rfl rfl (by decide +kernel) ⟨(Nat.le_of_ble_eq_true rfl), (Nat.le_of_ble_eq_true rfl)⟩) ⟨cPre.blind, cPre.use hw.2.1 hw.1 hw.2.2.1 hE⟩ rfl rfl hl.1 rfl (lv_room (Nat.le_of_ble_eq_true rfl)) dX12_firstOf_19 ⟨(Nat.le_of_ble_eq_true rfl), (Nat.le_of_ble_eq_true rfl)⟩) hw hA (fun _ _ h => h.2.2.1) (fun v19 w_1 H locs hp hw => ?_)
      obtain ⟨l_v19, h_v19, _, hm, x_v19_0⟩ := hp
      have hM := hM.trans hm (by decide) (by decide)
      have f_a0_X12_20 := hm.1 _ _ _ _ f_a0_X12_20 (by decide)
      have f_v8_M_said_3 := hm.elt k_v8 (by decide) f_v8_M_said_3
      have J43 : ∀ (H : Heap) (locs : List Loc) (ls : Array Slot) (w43 : va_W) (p43_l3 : Int32), tW (dC, dI) tys κ B A s w43 H locs → Sm [] [] κ ws w43 → (-1) ≤ p43_l3.toInt → p43_l3.toInt ≤ 5 → fld w43 a0 12 20 (.ref v8) → elt w43 v8 (3 : Int32).toInt.toNat v12 → lv_has ls 5 [(0, .ref a0), (1, .int a1), (2, .int a2), (3, .int p43_l3), (4, .int p5_l4)] → W p l e (headSpec (ws_u yX12_firstOf cX12_firstOf 5 (some .int)) ({ frames := 1, cells := 0, slots := 0, locals := 23 })).room s m ([.ref a0, .int a1, .int a2] : List Value).toArray below meth c H locs 0 0 QQ (F0 m 43 ls []) := by
        intro H locs ls w43 p43_l3 hw hM l_p43_l3 h_p43_l3 f_a0_X12_20 f_v8_M_said_3 hl
        obtain ⟨v43, e_v43⟩ : ∃ y : Int32, y = p5_l4 + 1 := ⟨_, rfl⟩
        refine lv_iinc (v := v43) (lv' := [(4, .int v43), (0, .ref a0), (1, .int a1), (2, .int a2), (3, .int p43_l3)]) hx hb dX12_firstOf_43 hl (k := 4) rfl e_v43.symm (by decide) rfl (fun ls hl => ?_)
        have e_v43 : v43.toInt = p5_l4.toInt + 1 := ad_i e_v43 rfl li_1 (by omega) (by omega)
        refine lv_goto (tgt := 5) hx hb dX12_firstOf_46 (by decide) ?_
        exact ih_5 _ _ _ _ (by omega) ⟨w43, p43_l3, v43, hw, hM, (by omega), (by omega), (by omega), (by omega), (lv_sub hl [1, 2, 3, 4, 0] rfl), rfl⟩
      refine lv_if_eq (tgt := 43) hx hb dX12_firstOf_22 (by decide) (fun c_22 => ?_) (fun c_22 => ?_)
      · simp only [fa_lt, fa_le, fa_eq, li_0] at c_22
        exact J43 _ _ _ w_1 p5_l3 hw hM (by omega) (by omega) f_a0_X12_20 f_v8_M_said_3 (lv_sub hl [0, 1, 2, 3, 4] rfl)
      · simp only [fa_lt, fa_le, fa_eq, li_0] at c_22
        refine lv_iload_n hx hb dX12_firstOf_25 rfl (lv_at hl 3 rfl) ?_
        have J40 : ∀ (H : Heap) (locs : List Loc) (ls : Array Slot) (w40 : va_W), tW (dC, dI) tys κ B A s w40 H locs → Sm [] [] κ ws w40 → fld w40 a0 12 20 (.ref v8) → elt w40 v8 (3 : Int32).toInt.toNat v12 → lv_has ls 5 [(0, .ref a0), (1, .int a1), (2, .int a2), (3, .int p5_l3), (4, .int p5_l4)] → W p l e (headSpec (ws_u yX12_firstOf cX12_firstOf 5 (some .int)) ({ frames := 1, cells := 0, slots := 0, locals := 23 })).room s m ([.ref a0, .int a1, .int a2] : List Value).toArray below meth c H locs 0 0 QQ (F0 m 40 ls []) := by
          intro H locs ls w40 hw hM f_a0_X12_20 f_v8_M_said_3 hl
          refine lv_iload hx hb dX12_firstOf_40 (lv_at hl 4 rfl) ?_
          refine lv_istore_n (lv' := [(3, .int p5_l4), (0, .ref a0), (1, .int a1), (2, .int a2), (4, .int p5_l4)]) hx hb dX12_firstOf_42 rfl hl (by decide) rfl (fun ls hl => ?_)
          exact J43 _ _ _ w40 p5_l4 hw hM (by omega) (by omega) f_a0_X12_20 f_v8_M_said_3 (lv_sub hl [1, 2, 3, 0, 4] rfl)
        refine lv_if_lt (tgt := 40) hx hb dX12_firstOf_26 (by decide) (fun c_26 => ?_) (fun c_26 => ?_)
        · simp only [fa_lt, fa_le, fa_eq, li_0] at c_26
          exact J40 _ _ _ w_1 hw hM f_a0_X12_20 f_v8_M_said_3 (lv_sub hl [0, 1, 2, 3, 4] rfl)
        · simp only [fa_lt, fa_le, fa_eq, li_0] at c_26
          refine lv_aload_n hx hb dX12_firstOf_29 rfl (lv_at hl 0 rfl) ?_
          refine lv_iload_n hx hb dX12_firstOf_30 rfl (lv_at hl 1 rfl) ?_
          refine lv_iload hx hb dX12_firstOf_31 (lv_at hl 4 rfl) ?_
          refine lv_iload_n hx hb dX12_firstOf_33 rfl (lv_at hl 3 rfl) ?_
          refine t_calli (va_runV (As := [.int a1, .int p5_l4, .int p5_l3]) (rest := []) ⟨hx, hb, hml, hown, hts⟩ (t_X12_isWantedMore l dC dI tys κ B w_1 hw.2.2.2.2 a0 k_a0 a1 (by omega) (by omega) p5_l4 (by omega) (by omega) p5_l3 (by omega) (by omega) H.size) (cwV 3 hts (gUV tw_1626 tw_1628 ts_7_5 tw_13 tw_1629) rfl rfl rfl (by decide +kernel) ⟨(Nat.le_of_ble_eq_true rfl), (Nat.le_of_ble_eq_true rfl)⟩) ⟨cPre.blind, t_recv hw (ci := 12) k_a0 rfl rfl, cPre.use hw.2.1 hw.1 hw.2.2.1 hE⟩ rfl rfl hl.1 rfl (lv_room (Nat.le_of_ble_eq_true rfl)) dX12_firstOf_34 ⟨(Nat.le_of_ble_eq_true rfl), (Nat.le_of_ble_eq_true rfl)⟩) hw hA (fun _ _ h => h.2.2.1) (fun v34 w_2 H locs hp hw => ?_)
          obtain ⟨l_v34, h_v34, _, hm⟩ := hp
          have hM := hM.trans hm (by decide) (by decide)
          have f_a0_X12_20 := hm.1 _ _ _ _ f_a0_X12_20 (by decide)
          have f_v8_M_said_3 := hm.elt k_v8 (by decide) f_v8_M_said_3
          refine lv_if_eq (tgt := 43) hx hb dX12_firstOf_37 (by decide) (fun c_37 => ?_) (fun c_37 => ?_)
          · simp only [fa_lt, fa_le, fa_eq, li_0] at c_37
            exact J43 _ _ _ w_2 p5_l3 hw hM (by omega) (by omega) f_a0_X12_20 f_v8_M_said_3 (lv_sub hl [0, 1, 2, 3, 4] rfl)
          · simp only [fa_lt, fa_le, fa_eq, li_0] at c_37
            exact J40 _ _ _ w_2 hw hM f_a0_X12_20 f_v8_M_said_3 (lv_sub hl [0, 1, 2, 3, 4] rfl)
  exact J5 _ _ _ _ ⟨ws, (-1), 0, hw, hM, (by decide), (by decide), (by decide), (by decide), (lv_sub hl [2, 3, 4, 1, 0] rfl), rfl⟩
set_option maxHeartbeats 4000000 in
set_option maxRecDepth 100000 in
theorem t_X12_pointsOf (l : Launch) (dC : Nat → ClassId) (dI : Nat → Nat → Nat) (tys : List (ClassId × FieldType)) (κ : tK) (B : Nat) (ws : va_W) (hT : Ty κ tys B ws) (a0 : Nat) (k_a0 : κ a0 = some 12) (a1 : Int32) (l_a1 : 0 ≤ a1.toInt) (h_a1 : a1.toInt ≤ 5) (sz : Nat) : Met l yX12_pointsOf (ws_u yX12_pointsOf cX12_pointsOf 5 (some .int)) ({ frames := 2, cells := 0, slots := 0, locals := 43 }) (va_Pc [.ref a0, .int a1] (cPre (dC, dI) tys ws sz)) (va_Qi (fun (r : Int32) (w : va_W) => Ty κ tys B w ∧ Sm [] [] κ ws w) (fun w t => cPost (dC, dI) tys w (va_A ws sz) t) (va_A ws sz)) 0 0 (va_A ws sz) := by
  refine Met.ofW (cc := cX12_pointsOf) (maxL := 5) (ret := (some .int)) (by decide) rfl ?_
  intro p e s m args below meth c s₁ B0 hml hv
  obtain ⟨rfl, hsz, hP, hK, hD0, hE⟩ := hv
  have hx := B0.exec
  have hb := B0.bytes
  have hr := B0.returns
  have hts0 := atoms_spec (ws := ws_u yX12_pointsOf cX12_pointsOf 5 (some .int)) B0.pre
  have hts : ∀ w ∈ gT, w.before _ s = true := fun w h => hts0 w (List.mem_cons_of_mem _ h)
  have hown : s.vm.findClass RX12 = some m.cls := findClass_of_methodNamed B0.named
  have hlocks := B0.notSynchronized
  subst hsz
  have hD := hD0.self (sz := s.heap.size)
  generalize hAe : va_A ws s.heap.size = A at hD ⊢
  have hA : ∀ q : Nat, s.heap.size ≤ q → A q := fun q h => by rw [← hAe]; exact Or.inr h
  have hw : tW (dC, dI) tys κ B A s ws s.heap [] := ⟨hK, hP, hD, va_S.rf, hT⟩
  have hM : Sm [] [] κ ws ws := Sm.rf
  clear hP hK hD hD0 hts0
  have hl := lv_entry ([.ref a0, .int a1]) (n := 5) (Nat.le_of_ble_eq_true rfl)
  rw [lg_entry_eq]
  generalize (lg_sl ([.ref a0, .int a1]) ++ List.replicate (5 - (lg_sl ([.ref a0, .int a1])).length) Slot.unset).toArray = ls at hl ⊢
  have hl : lv_has ls 5 [(0, .ref a0), (1, .int a1)] := hl
  refine t_start (fun QQ hQ => ?_)
  refine lv_iconst (v := 0) hx hb dX12_pointsOf_0 (by decide) ?_
  refine lv_istore_n (lv' := [(2, .int 0), (0, .ref a0), (1, .int a1)]) hx hb dX12_pointsOf_1 rfl hl (by decide) rfl (fun ls hl => ?_)
  refine lv_iconst (v := 0) hx hb dX12_pointsOf_2 (by decide) ?_
  refine lv_istore_n (lv' := [(3, .int 0), (2, .int 0), (0, .ref a0), (1, .int a1)]) hx hb dX12_pointsOf_3 rfl hl (by decide) rfl (fun ls hl => ?_)
  have J4 : ∀ (n : Nat) (H : Heap) (locs : List Loc) (ls : Array Slot), (∃ (w4 : va_W) (p4_l2 : Int32) (p4_l3 : Int32), tW (dC, dI) tys κ B A s w4 H locs ∧ Sm [] [] κ ws w4 ∧ (-2147483648) ≤ p4_l2.toInt ∧ p4_l2.toInt ≤ 2147483647 ∧ 0 ≤ p4_l3.toInt ∧ p4_l3.toInt ≤ 6 ∧ lv_has ls 5 [(0, .ref a0), (1, .int a1), (2, .int p4_l2), (3, .int p4_l3)] ∧ (6 - p4_l3.toInt).toNat = n) → W p l e (headSpec (ws_u yX12_pointsOf cX12_pointsOf 5 (some .int)) ({ frames := 2, cells := 0, slots := 0, locals := 43 })).room s m ([.ref a0, .int a1] : List Value).toArray below meth c H locs 0 0 QQ (F0 m 4 ls []) := by
    refine loopT _ ?_
    intro n_4 H locs ls hI ih_4
    obtain ⟨w4, p4_l2, p4_l3, hw, hM, l_p4_l2, h_p4_l2, l_p4_l3, h_p4_l3, hl, hn_4⟩ := hI
    refine lv_iload_n hx hb dX12_pointsOf_4 rfl (lv_at hl 3 rfl) ?_
    refine lv_aload_n hx hb dX12_pointsOf_5 rfl (lv_at hl 0 rfl) ?_
    refine t_getr (k1 := 63) (ci := 12) (C := RX12) (T := TX12) (N := 38) hx hb hts iX12 hown hw k_a0 rfl rfl rfl 20 (by decide) (hts _ tw_1145) (fun _ h9 => h9) dX12_pointsOf_6 rfl (fun v6 k_v6 f_a0_X12_20 => ?_)
    refine lv_iconst (v := 3) hx hb dX12_pointsOf_9 (by decide) ?_
    refine t_iald hx hb hw k_v6 rfl rfl (by decide) (by decide) dX12_pointsOf_10 (fun v10 r_v10 s_v10 f_v6_M_said_3 => ?_)
    have l_v10 : 0 ≤ v10.toInt := by rw [iv_63_3] at r_v10; exact r_v10
    have h_v10 : v10.toInt ≤ 6 := by rw [iv_63_3] at s_v10; exact s_v10
    refine lv_icmp_ge (tgt := 68) hx hb dX12_pointsOf_11 (by decide) (fun c_11 => ?_) (fun c_11 => ?_)
    · simp only [fa_lt, fa_le, fa_eq] at c_11
      refine lv_iload_n hx hb dX12_pointsOf_68 rfl (lv_at hl 2 rfl) ?_
      rw [hQ]
      refine W.widen (k := 0) (n := 0) (Nat.le_refl _) (Nat.le_refl _) ?_
      exact W.iret (v := p4_l2) hx hb hr (fun t ht hW => ⟨⟨p4_l2, w4, rfl, ⟨hw.2.2.2.2, hM⟩, by rw [ht]; exact hw.2.1, va_K.moved hW.alike hw.1, hw.2.2.1⟩, hw.2.2.2.1.F ht⟩) hw.2.2.2.1.2.2 dX12_pointsOf_69
    · simp only [fa_lt, fa_le, fa_eq] at c_11
      refine lv_iconst (v := 0) hx hb dX12_pointsOf_14 (by decide) ?_
      refine lv_istore (lv' := [(4, .int 0), (0, .ref a0), (1, .int a1), (2, .int p4_l2), (3, .int p4_l3)]) hx hb dX12_pointsOf_15 hl (by decide) rfl (fun ls hl => ?_)
      have J17 : ∀ (n : Nat) (H : Heap) (locs : List Loc) (ls : Array Slot), (∃ (w17 : va_W) (p17_l2 : Int32) (p17_l4 : Int32), tW (dC, dI) tys κ B A s w17 H locs ∧ Sm [] [] κ ws w17 ∧ (-2147483648) ≤ p17_l2.toInt ∧ p17_l2.toInt ≤ 2147483647 ∧ 0 ≤ p17_l4.toInt ∧ p17_l4.toInt ≤ 6 ∧ fld w17 a0 12 20 (.ref v6) ∧ elt w17 v6 (3 : Int32).toInt.toNat v10 ∧ lv_has ls 5 [(0, .ref a0), (1, .int a1), (2, .int p17_l2), (3, .int p4_l3), (4, .int p17_l4)] ∧ (6 - p17_l4.toInt).toNat = n) → W p l e (headSpec (ws_u yX12_pointsOf cX12_pointsOf 5 (some .int)) ({ frames := 2, cells := 0, slots := 0, locals := 43 })).room s m ([.ref a0, .int a1] : List Value).toArray below meth c H locs 0 0 QQ (F0 m 17 ls []) := by
        refine loopT _ ?_
        intro n_17 H locs ls hI ih_17
        obtain ⟨w17, p17_l2, p17_l4, hw, hM, l_p17_l2, h_p17_l2, l_p17_l4, h_p17_l4, f_a0_X12_20, f_v6_M_said_3, hl, hn_17⟩ := hI
        refine lv_iload hx hb dX12_pointsOf_17 (lv_at hl 4 rfl) ?_
        refine lv_aload_n hx hb dX12_pointsOf_19 rfl (lv_at hl 0 rfl) ?_
        refine t_getk (ci := 12) (C := RX12) (T := TX12) (N := 38) hx hb hts iX12 hown hw rfl 20 (by decide) (hts _ tw_1145) (fun _ h9 => h9) dX12_pointsOf_20 f_a0_X12_20 ?_
        refine lv_iconst (v := 3) hx hb dX12_pointsOf_23 (by decide) ?_
        refine t_ialdk hx hb hw k_v6 rfl rfl (by decide) (by decide) f_v6_M_said_3 dX12_pointsOf_24 ?_
        refine lv_icmp_ge (tgt := 62) hx hb dX12_pointsOf_25 (by decide) (fun c_25 => ?_) (fun c_25 => ?_)
        · simp only [fa_lt, fa_le, fa_eq] at c_25
          obtain ⟨v62, e_v62⟩ : ∃ y : Int32, y = p4_l3 + 1 := ⟨_, rfl⟩
          refine lv_iinc (v := v62) (lv' := [(3, .int v62), (0, .ref a0), (1, .int a1), (2, .int p17_l2), (4, .int p17_l4)]) hx hb dX12_pointsOf_62 hl (k := 3) rfl e_v62.symm (by decide) rfl (fun ls hl => ?_)
          have e_v62 : v62.toInt = p4_l3.toInt + 1 := ad_i e_v62 rfl li_1 (by omega) (by omega)
          refine lv_goto (tgt := 4) hx hb dX12_pointsOf_65 (by decide) ?_
          exact ih_4 _ _ _ _ (by omega) ⟨w17, p17_l2, v62, hw, hM, (by omega), (by omega), (by omega), (by omega), (lv_sub hl [1, 2, 3, 0] rfl), rfl⟩
        · simp only [fa_lt, fa_le, fa_eq] at c_25
          refine lv_iload_n hx hb dX12_pointsOf_28 rfl (lv_at hl 2 rfl) ?_
          refine lv_aload_n hx hb dX12_pointsOf_29 rfl (lv_at hl 0 rfl) ?_
          refine lv_iload hx hb dX12_pointsOf_30 (lv_at hl 4 rfl) ?_
          refine t_calli (va_runV (As := [.int p17_l4]) (rest := [.int p17_l2]) ⟨hx, hb, hml, hown, hts⟩ (t_X12_isSound l dC dI tys κ B w17 hw.2.2.2.2 a0 k_a0 p17_l4 H.size) (cwV 1 hts (gUV tw_1517 tw_1519 ts_6_3 tw_13 tw_1520) rfl rfl rfl (by decide +kernel) ⟨(Nat.le_of_ble_eq_true rfl), (Nat.le_of_ble_eq_true rfl)⟩) ⟨cPre.blind, t_recv hw (ci := 12) k_a0 rfl rfl, cPre.use hw.2.1 hw.1 hw.2.2.1 hE⟩ rfl rfl hl.1 rfl (lv_room (Nat.le_of_ble_eq_true rfl)) dX12_pointsOf_32 ⟨(Nat.le_of_ble_eq_true rfl), (Nat.le_of_ble_eq_true rfl)⟩) hw hA (fun _ _ h => h.2.2.1) (fun v32 w_1 H locs hp hw => ?_)
          obtain ⟨l_v32, h_v32, _, hm, x_v32_0⟩ := hp
          have hM := hM.trans hm (by decide) (by decide)
          have f_a0_X12_20 := hm.1 _ _ _ _ f_a0_X12_20 (by decide)
          have f_v6_M_said_3 := hm.elt k_v6 (by decide) f_v6_M_said_3
          have J54 : ∀ (H : Heap) (locs : List Loc) (ls : Array Slot) (w54 : va_W) (p54_s0 : Int32), tW (dC, dI) tys κ B A s w54 H locs → Sm [] [] κ ws w54 → 0 ≤ p54_s0.toInt → p54_s0.toInt ≤ 1 → fld w54 a0 12 20 (.ref v6) → elt w54 v6 (3 : Int32).toInt.toNat v10 → lv_has ls 5 [(0, .ref a0), (1, .int a1), (2, .int p17_l2), (3, .int p4_l3), (4, .int p17_l4)] → W p l e (headSpec (ws_u yX12_pointsOf cX12_pointsOf 5 (some .int)) ({ frames := 2, cells := 0, slots := 0, locals := 43 })).room s m ([.ref a0, .int a1] : List Value).toArray below meth c H locs 0 0 QQ (F0 m 54 ls [.int p54_s0, .int p17_l2]) := by
            intro H locs ls w54 p54_s0 hw hM l_p54_s0 h_p54_s0 f_a0_X12_20 f_v6_M_said_3 hl
            refine lv_iadd hx hb dX12_pointsOf_54 ?_
            refine lv_topi (fun v54 e_v54 => ?_)
            have l_v54 := i32_lo v54
            have h_v54 := i32_hi v54
            refine lv_istore_n (lv' := [(2, .int v54), (0, .ref a0), (1, .int a1), (3, .int p4_l3), (4, .int p17_l4)]) hx hb dX12_pointsOf_55 rfl hl (by decide) rfl (fun ls hl => ?_)
            obtain ⟨v56, e_v56⟩ : ∃ y : Int32, y = p17_l4 + 1 := ⟨_, rfl⟩
            refine lv_iinc (v := v56) (lv' := [(4, .int v56), (2, .int v54), (0, .ref a0), (1, .int a1), (3, .int p4_l3)]) hx hb dX12_pointsOf_56 hl (k := 4) rfl e_v56.symm (by decide) rfl (fun ls hl => ?_)
            have e_v56 : v56.toInt = p17_l4.toInt + 1 := ad_i e_v56 rfl li_1 (by omega) (by omega)
            refine lv_goto (tgt := 17) hx hb dX12_pointsOf_59 (by decide) ?_
            exact ih_17 _ _ _ _ (by omega) ⟨w54, v54, v56, hw, hM, (by omega), (by omega), (by omega), (by omega), f_a0_X12_20, f_v6_M_said_3, (lv_sub hl [2, 3, 1, 4, 0] rfl), rfl⟩
          have J53 : ∀ (H : Heap) (locs : List Loc) (ls : Array Slot) (w53 : va_W), tW (dC, dI) tys κ B A s w53 H locs → Sm [] [] κ ws w53 → fld w53 a0 12 20 (.ref v6) → elt w53 v6 (3 : Int32).toInt.toNat v10 → lv_has ls 5 [(0, .ref a0), (1, .int a1), (2, .int p17_l2), (3, .int p4_l3), (4, .int p17_l4)] → W p l e (headSpec (ws_u yX12_pointsOf cX12_pointsOf 5 (some .int)) ({ frames := 2, cells := 0, slots := 0, locals := 43 })).room s m ([.ref a0, .int a1] : List Value).toArray below meth c H locs 0 0 QQ (F0 m 53 ls [.int p17_l2]) := by
            intro H locs ls w53 hw hM f_a0_X12_20 f_v6_M_said_3 hl
            refine lv_iconst (v := 0) hx hb dX12_pointsOf_53 (by decide) ?_
            exact J54 _ _ _ w53 0 hw hM (by decide) (by decide) f_a0_X12_20 f_v6_M_said_3 (lv_sub hl [0, 1, 2, 3, 4] rfl)
          refine lv_if_eq (tgt := 53) hx hb dX12_pointsOf_35 (by decide) (fun c_35 => ?_) (fun c_35 => ?_)
          · simp only [fa_lt, fa_le, fa_eq, li_0] at c_35
            exact J53 _ _ _ w_1 hw hM f_a0_X12_20 f_v6_M_said_3 (lv_sub hl [0, 1, 2, 3, 4] rfl)
          · simp only [fa_lt, fa_le, fa_eq, li_0] at c_35
            refine lv_aload_n hx hb dX12_pointsOf_38 rfl (lv_at hl 0 rfl) ?_
            refine lv_iload_n hx hb dX12_pointsOf_39 rfl (lv_at hl 3 rfl) ?_
            refine lv_iload_n hx hb dX12_pointsOf_40 rfl (lv_at hl 1 rfl) ?_
            refine lv_iload hx hb dX12_pointsOf_41 (lv_at hl 4 rfl) ?_
            refine t_calli (va_runV (As := [.int p4_l3, .int a1, .int p17_l4]) (rest := [.int p17_l2]) ⟨hx, hb, hml, hown, hts⟩ (t_X12_isWantedMore l dC dI tys κ B w_1 hw.2.2.2.2 a0 k_a0 p4_l3 (by omega) (by omega) a1 (by omega) (by omega) p17_l4 (by omega) (by omega) H.size) (cwV 3 hts (gUV tw_1626 tw_1628 ts_7_5 tw_13 tw_1629) rfl rfl rfl (by decide +kernel) ⟨(Nat.le_of_ble_eq_true rfl), (Nat.le_of_ble_eq_true rfl)⟩) ⟨cPre.blind, t_recv hw (ci := 12) k_a0 rfl rfl, cPre.use hw.2.1 hw.1 hw.2.2.1 hE⟩ rfl rfl hl.1 rfl (lv_room (Nat.le_of_ble_eq_true rfl)) dX12_pointsOf_43 ⟨(Nat.le_of_ble_eq_true rfl), (Nat.le_of_ble_eq_true rfl)⟩) hw hA (fun _ _ h => h.2.2.1) (fun v43 w_2 H locs hp hw => ?_)
            obtain ⟨l_v43, h_v43, _, hm⟩ := hp
            have hM := hM.trans hm (by decide) (by decide)
            have f_a0_X12_20 := hm.1 _ _ _ _ f_a0_X12_20 (by decide)
            have f_v6_M_said_3 := hm.elt k_v6 (by decide) f_v6_M_said_3
            refine lv_if_eq (tgt := 53) hx hb dX12_pointsOf_46 (by decide) (fun c_46 => ?_) (fun c_46 => ?_)
            · simp only [fa_lt, fa_le, fa_eq, li_0] at c_46
              exact J53 _ _ _ w_2 hw hM f_a0_X12_20 f_v6_M_said_3 (lv_sub hl [0, 1, 2, 3, 4] rfl)
            · simp only [fa_lt, fa_le, fa_eq, li_0] at c_46
              refine lv_iconst (v := 1) hx hb dX12_pointsOf_49 (by decide) ?_
              refine lv_goto (tgt := 54) hx hb dX12_pointsOf_50 (by decide) ?_
              exact J54 _ _ _ w_2 1 hw hM (by decide) (by decide) f_a0_X12_20 f_v6_M_said_3 (lv_sub hl [0, 1, 2, 3, 4] rfl)
      exact J17 _ _ _ _ ⟨w4, p4_l2, 0, hw, hM, (by omega), (by omega), (by decide), (by decide), f_a0_X12_20, f_v6_M_said_3, (lv_sub hl [1, 2, 3, 4, 0] rfl), rfl⟩
  exact J4 _ _ _ _ ⟨ws, 0, 0, hw, hM, (by decide), (by decide), (by decide), (by decide), (lv_sub hl [2, 3, 1, 0] rfl), rfl⟩
set_option maxHeartbeats 4000000 in
set_option maxRecDepth 100000 in
theorem t_X12_byPoints (l : Launch) (dC : Nat → ClassId) (dI : Nat → Nat → Nat) (tys : List (ClassId × FieldType)) (κ : tK) (B : Nat) (ws : va_W) (hT : Ty κ tys B ws) (a0 : Nat) (k_a0 : κ a0 = some 12) (sz : Nat) : Met l yX12_byPoints (ws_u yX12_byPoints cX12_byPoints 3 (some .int)) ({ frames := 3, cells := 0, slots := 0, locals := 67 }) (va_Pc [.ref a0] (cPre (dC, dI) tys ws sz)) (va_Qi (fun (r : Int32) (w : va_W) => (-1) ≤ r.toInt ∧ r.toInt ≤ 5 ∧ Ty κ tys B w ∧ Sm [] [] κ ws w) (fun w t => cPost (dC, dI) tys w (va_A ws sz) t) (va_A ws sz)) 0 0 (va_A ws sz) := by
  refine Met.ofW (cc := cX12_byPoints) (maxL := 3) (ret := (some .int)) (by decide) rfl ?_
  intro p e s m args below meth c s₁ B0 hml hv
  obtain ⟨rfl, hsz, hP, hK, hD0, hE⟩ := hv
  have hx := B0.exec
  have hb := B0.bytes
  have hr := B0.returns
  have hts0 := atoms_spec (ws := ws_u yX12_byPoints cX12_byPoints 3 (some .int)) B0.pre
  have hts : ∀ w ∈ gT, w.before _ s = true := fun w h => hts0 w (List.mem_cons_of_mem _ h)
  have hown : s.vm.findClass RX12 = some m.cls := findClass_of_methodNamed B0.named
  have hlocks := B0.notSynchronized
  subst hsz
  have hD := hD0.self (sz := s.heap.size)
  generalize hAe : va_A ws s.heap.size = A at hD ⊢
  have hA : ∀ q : Nat, s.heap.size ≤ q → A q := fun q h => by rw [← hAe]; exact Or.inr h
  have hw : tW (dC, dI) tys κ B A s ws s.heap [] := ⟨hK, hP, hD, va_S.rf, hT⟩
  have hM : Sm [] [] κ ws ws := Sm.rf
  clear hP hK hD hD0 hts0
  have hl := lv_entry ([.ref a0]) (n := 3) (Nat.le_of_ble_eq_true rfl)
  rw [lg_entry_eq]
  generalize (lg_sl ([.ref a0]) ++ List.replicate (3 - (lg_sl ([.ref a0])).length) Slot.unset).toArray = ls at hl ⊢
  have hl : lv_has ls 3 [(0, .ref a0)] := hl
  refine t_start (fun QQ hQ => ?_)
  refine lv_iconst (v := (-1)) hx hb dX12_byPoints_0 (by decide) ?_
  refine lv_istore_n (lv' := [(1, .int (-1)), (0, .ref a0)]) hx hb dX12_byPoints_1 rfl hl (by decide) rfl (fun ls hl => ?_)
  refine lv_iconst (v := 0) hx hb dX12_byPoints_2 (by decide) ?_
  refine lv_istore_n (lv' := [(2, .int 0), (1, .int (-1)), (0, .ref a0)]) hx hb dX12_byPoints_3 rfl hl (by decide) rfl (fun ls hl => ?_)
  have J4 : ∀ (n : Nat) (H : Heap) (locs : List Loc) (ls : Array Slot), (∃ (w4 : va_W) (p4_l1 : Int32) (p4_l2 : Int32), tW (dC, dI) tys κ B A s w4 H locs ∧ Sm [] [] κ ws w4 ∧ (-1) ≤ p4_l1.toInt ∧ p4_l1.toInt ≤ 5 ∧ 0 ≤ p4_l2.toInt ∧ p4_l2.toInt ≤ 6 ∧ lv_has ls 3 [(0, .ref a0), (1, .int p4_l1), (2, .int p4_l2)] ∧ (6 - p4_l2.toInt).toNat = n) → W p l e (headSpec (ws_u yX12_byPoints cX12_byPoints 3 (some .int)) ({ frames := 3, cells := 0, slots := 0, locals := 67 })).room s m ([.ref a0] : List Value).toArray below meth c H locs 0 0 QQ (F0 m 4 ls []) := by
    refine loopT _ ?_
    intro n_4 H locs ls hI ih_4
    obtain ⟨w4, p4_l1, p4_l2, hw, hM, l_p4_l1, h_p4_l1, l_p4_l2, h_p4_l2, hl, hn_4⟩ := hI
    refine lv_iload_n hx hb dX12_byPoints_4 rfl (lv_at hl 2 rfl) ?_
    refine lv_aload_n hx hb dX12_byPoints_5 rfl (lv_at hl 0 rfl) ?_
    refine t_getr (k1 := 63) (ci := 12) (C := RX12) (T := TX12) (N := 38) hx hb hts iX12 hown hw k_a0 rfl rfl rfl 20 (by decide) (hts _ tw_1145) (fun _ h9 => h9) dX12_byPoints_6 rfl (fun v6 k_v6 f_a0_X12_20 => ?_)
    refine lv_iconst (v := 3) hx hb dX12_byPoints_9 (by decide) ?_
    refine t_iald hx hb hw k_v6 rfl rfl (by decide) (by decide) dX12_byPoints_10 (fun v10 r_v10 s_v10 f_v6_M_said_3 => ?_)
    have l_v10 : 0 ≤ v10.toInt := by rw [iv_63_3] at r_v10; exact r_v10
    have h_v10 : v10.toInt ≤ 6 := by rw [iv_63_3] at s_v10; exact s_v10
    refine lv_icmp_ge (tgt := 47) hx hb dX12_byPoints_11 (by decide) (fun c_11 => ?_) (fun c_11 => ?_)
    · simp only [fa_lt, fa_le, fa_eq] at c_11
      refine lv_iload_n hx hb dX12_byPoints_47 rfl (lv_at hl 1 rfl) ?_
      rw [hQ]
      refine W.widen (k := 0) (n := 0) (Nat.le_refl _) (Nat.le_refl _) ?_
      exact W.iret (v := p4_l1) hx hb hr (fun t ht hW => ⟨⟨p4_l1, w4, rfl, ⟨(by omega), (by omega), hw.2.2.2.2, hM⟩, by rw [ht]; exact hw.2.1, va_K.moved hW.alike hw.1, hw.2.2.1⟩, hw.2.2.2.1.F ht⟩) hw.2.2.2.1.2.2 dX12_byPoints_48
    · simp only [fa_lt, fa_le, fa_eq] at c_11
      refine lv_aload_n hx hb dX12_byPoints_14 rfl (lv_at hl 0 rfl) ?_
      refine lv_iload_n hx hb dX12_byPoints_15 rfl (lv_at hl 2 rfl) ?_
      refine t_calli (va_runV (As := [.int p4_l2]) (rest := []) ⟨hx, hb, hml, hown, hts⟩ (t_X12_isSound l dC dI tys κ B w4 hw.2.2.2.2 a0 k_a0 p4_l2 H.size) (cwV 1 hts (gUV tw_1517 tw_1519 ts_6_3 tw_13 tw_1520) rfl rfl rfl (by decide +kernel) ⟨(Nat.le_of_ble_eq_true rfl), (Nat.le_of_ble_eq_true rfl)⟩) ⟨cPre.blind, t_recv hw (ci := 12) k_a0 rfl rfl, cPre.use hw.2.1 hw.1 hw.2.2.1 hE⟩ rfl rfl hl.1 rfl (lv_room (Nat.le_of_ble_eq_true rfl)) dX12_byPoints_16 ⟨(Nat.le_of_ble_eq_true rfl), (Nat.le_of_ble_eq_true rfl)⟩) hw hA (fun _ _ h => h.2.2.1) (fun v16 w_1 H locs hp hw => ?_)
      obtain ⟨l_v16, h_v16, _, hm, x_v16_0⟩ := hp
      have hM := hM.trans hm (by decide) (by decide)
      have f_a0_X12_20 := hm.1 _ _ _ _ f_a0_X12_20 (by decide)
      have f_v6_M_said_3 := hm.elt k_v6 (by decide) f_v6_M_said_3
      have J41 : ∀ (H : Heap) (locs : List Loc) (ls : Array Slot) (w41 : va_W) (p41_l1 : Int32), tW (dC, dI) tys κ B A s w41 H locs → Sm [] [] κ ws w41 → (-1) ≤ p41_l1.toInt → p41_l1.toInt ≤ 5 → fld w41 a0 12 20 (.ref v6) → elt w41 v6 (3 : Int32).toInt.toNat v10 → lv_has ls 3 [(0, .ref a0), (1, .int p41_l1), (2, .int p4_l2)] → W p l e (headSpec (ws_u yX12_byPoints cX12_byPoints 3 (some .int)) ({ frames := 3, cells := 0, slots := 0, locals := 67 })).room s m ([.ref a0] : List Value).toArray below meth c H locs 0 0 QQ (F0 m 41 ls []) := by
        intro H locs ls w41 p41_l1 hw hM l_p41_l1 h_p41_l1 f_a0_X12_20 f_v6_M_said_3 hl
        obtain ⟨v41, e_v41⟩ : ∃ y : Int32, y = p4_l2 + 1 := ⟨_, rfl⟩
        refine lv_iinc (v := v41) (lv' := [(2, .int v41), (0, .ref a0), (1, .int p41_l1)]) hx hb dX12_byPoints_41 hl (k := 2) rfl e_v41.symm (by decide) rfl (fun ls hl => ?_)
        have e_v41 : v41.toInt = p4_l2.toInt + 1 := ad_i e_v41 rfl li_1 (by omega) (by omega)
        refine lv_goto (tgt := 4) hx hb dX12_byPoints_44 (by decide) ?_
        exact ih_4 _ _ _ _ (by omega) ⟨w41, p41_l1, v41, hw, hM, (by omega), (by omega), (by omega), (by omega), (lv_sub hl [1, 2, 0] rfl), rfl⟩
      refine lv_if_eq (tgt := 41) hx hb dX12_byPoints_19 (by decide) (fun c_19 => ?_) (fun c_19 => ?_)
      · simp only [fa_lt, fa_le, fa_eq, li_0] at c_19
        exact J41 _ _ _ w_1 p4_l1 hw hM (by omega) (by omega) f_a0_X12_20 f_v6_M_said_3 (lv_sub hl [0, 1, 2] rfl)
      · simp only [fa_lt, fa_le, fa_eq, li_0] at c_19
        refine lv_iload_n hx hb dX12_byPoints_22 rfl (lv_at hl 1 rfl) ?_
        have J39 : ∀ (H : Heap) (locs : List Loc) (ls : Array Slot) (w39 : va_W), tW (dC, dI) tys κ B A s w39 H locs → Sm [] [] κ ws w39 → fld w39 a0 12 20 (.ref v6) → elt w39 v6 (3 : Int32).toInt.toNat v10 → lv_has ls 3 [(0, .ref a0), (1, .int p4_l1), (2, .int p4_l2)] → W p l e (headSpec (ws_u yX12_byPoints cX12_byPoints 3 (some .int)) ({ frames := 3, cells := 0, slots := 0, locals := 67 })).room s m ([.ref a0] : List Value).toArray below meth c H locs 0 0 QQ (F0 m 39 ls []) := by
          intro H locs ls w39 hw hM f_a0_X12_20 f_v6_M_said_3 hl
          refine lv_iload_n hx hb dX12_byPoints_39 rfl (lv_at hl 2 rfl) ?_
          refine lv_istore_n (lv' := [(1, .int p4_l2), (0, .ref a0), (2, .int p4_l2)]) hx hb dX12_byPoints_40 rfl hl (by decide) rfl (fun ls hl => ?_)
          exact J41 _ _ _ w39 p4_l2 hw hM (by omega) (by omega) f_a0_X12_20 f_v6_M_said_3 (lv_sub hl [1, 0, 2] rfl)
        refine lv_if_lt (tgt := 39) hx hb dX12_byPoints_23 (by decide) (fun c_23 => ?_) (fun c_23 => ?_)
        · simp only [fa_lt, fa_le, fa_eq, li_0] at c_23
          exact J39 _ _ _ w_1 hw hM f_a0_X12_20 f_v6_M_said_3 (lv_sub hl [0, 1, 2] rfl)
        · simp only [fa_lt, fa_le, fa_eq, li_0] at c_23
          refine lv_aload_n hx hb dX12_byPoints_26 rfl (lv_at hl 0 rfl) ?_
          refine lv_iload_n hx hb dX12_byPoints_27 rfl (lv_at hl 2 rfl) ?_
          refine t_calli (va_runV (As := [.int p4_l2]) (rest := []) ⟨hx, hb, hml, hown, hts⟩ (t_X12_pointsOf l dC dI tys κ B w_1 hw.2.2.2.2 a0 k_a0 p4_l2 (by omega) (by omega) H.size) (cwV 1 hts (gUV tw_1622 tw_1624 ts_7_4 tw_13 tw_1625) rfl rfl rfl (by decide +kernel) ⟨(Nat.le_of_ble_eq_true rfl), (Nat.le_of_ble_eq_true rfl)⟩) ⟨cPre.blind, t_recv hw (ci := 12) k_a0 rfl rfl, cPre.use hw.2.1 hw.1 hw.2.2.1 hE⟩ rfl rfl hl.1 rfl (lv_room (Nat.le_of_ble_eq_true rfl)) dX12_byPoints_28 ⟨(Nat.le_of_ble_eq_true rfl), (Nat.le_of_ble_eq_true rfl)⟩) hw hA (fun _ _ h => h.1) (fun v28 w_2 H locs hp hw => ?_)
          obtain ⟨_, hm⟩ := hp
          have l_v28 := i32_lo v28
          have h_v28 := i32_hi v28
          have hM := hM.trans hm (by decide) (by decide)
          have f_a0_X12_20 := hm.1 _ _ _ _ f_a0_X12_20 (by decide)
          have f_v6_M_said_3 := hm.elt k_v6 (by decide) f_v6_M_said_3
          refine lv_aload_n hx hb dX12_byPoints_31 rfl (lv_at hl 0 rfl) ?_
          refine lv_iload_n hx hb dX12_byPoints_32 rfl (lv_at hl 1 rfl) ?_
          refine t_calli (va_runV (As := [.int p4_l1]) (rest := [.int v28]) ⟨hx, hb, hml, hown, hts⟩ (t_X12_pointsOf l dC dI tys κ B w_2 hw.2.2.2.2 a0 k_a0 p4_l1 (by omega) (by omega) H.size) (cwV 1 hts (gUV tw_1622 tw_1624 ts_7_4 tw_13 tw_1625) rfl rfl rfl (by decide +kernel) ⟨(Nat.le_of_ble_eq_true rfl), (Nat.le_of_ble_eq_true rfl)⟩) ⟨cPre.blind, t_recv hw (ci := 12) k_a0 rfl rfl, cPre.use hw.2.1 hw.1 hw.2.2.1 hE⟩ rfl rfl hl.1 rfl (lv_room (Nat.le_of_ble_eq_true rfl)) dX12_byPoints_33 ⟨(Nat.le_of_ble_eq_true rfl), (Nat.le_of_ble_eq_true rfl)⟩) hw hA (fun _ _ h => h.1) (fun v33 w_3 H locs hp hw => ?_)
          obtain ⟨_, hm⟩ := hp
          have l_v33 := i32_lo v33
          have h_v33 := i32_hi v33
          have hM := hM.trans hm (by decide) (by decide)
          have f_a0_X12_20 := hm.1 _ _ _ _ f_a0_X12_20 (by decide)
          have f_v6_M_said_3 := hm.elt k_v6 (by decide) f_v6_M_said_3
          refine lv_icmp_le (tgt := 41) hx hb dX12_byPoints_36 (by decide) (fun c_36 => ?_) (fun c_36 => ?_)
          · simp only [fa_lt, fa_le, fa_eq] at c_36
            exact J41 _ _ _ w_3 p4_l1 hw hM (by omega) (by omega) f_a0_X12_20 f_v6_M_said_3 (lv_sub hl [0, 1, 2] rfl)
          · simp only [fa_lt, fa_le, fa_eq] at c_36
            exact J39 _ _ _ w_3 hw hM f_a0_X12_20 f_v6_M_said_3 (lv_sub hl [0, 1, 2] rfl)
  exact J4 _ _ _ _ ⟨ws, (-1), 0, hw, hM, (by decide), (by decide), (by decide), (by decide), (lv_sub hl [2, 1, 0] rfl), rfl⟩
