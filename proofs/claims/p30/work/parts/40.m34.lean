theorem ts_7_9 : Cond.selects "BoyBishopModel" ⟨"BoyBishopModel", "isWonBy", "(II)Z"⟩ ⟨"BoyBishopModel", "isWonBy", "(II)Z"⟩ ∈ gT := gT_in (List.mem_append_left _ (List.mem_map.mpr ⟨(⟨"BoyBishopModel", "isWonBy", "(II)Z"⟩, 38), (List.mem_append_right _ (List.mem_append_right _ (List.mem_append_right _ (List.mem_append_right _ (List.mem_append_right _ (List.mem_append_right _ (List.mem_append_right _ (List.mem_append_left _ (List.mem_of_getElem? (i := 9) rfl))))))))), rfl⟩)) rfl
theorem tw_1359 : (Jvm.Cond.constant "BoyBishopModel" (167 : Nat) (99999 : Int32)) ∈ gT := gT_in (List.mem_append_right _ (List.mem_append_right _ (List.mem_append_right _ (List.mem_append_right _ (List.mem_append_right _ (List.mem_append_right _ (List.mem_append_left _ (List.mem_of_getElem? (i := 159) rfl)))))))) rfl
theorem tw_1634 : (Jvm.Cond.methodLink "BoyBishopModel" (409 : Nat) ({ cls := "BoyBishopModel", name := "bits", desc := "(I)I" } : Jvm.MethodName)) ∈ gT := gT_in (List.mem_append_right _ (List.mem_append_right _ (List.mem_append_right _ (List.mem_append_right _ (List.mem_append_right _ (List.mem_append_right _ (List.mem_append_right _ (List.mem_append_left _ (List.mem_of_getElem? (i := 194) rfl))))))))) rfl
theorem tw_1635 : (Jvm.Cond.static ({ cls := "BoyBishopModel", name := "bits", desc := "(I)I" } : Jvm.MethodName)) ∈ gT := gT_in (List.mem_append_right _ (List.mem_append_right _ (List.mem_append_right _ (List.mem_append_right _ (List.mem_append_right _ (List.mem_append_right _ (List.mem_append_right _ (List.mem_append_left _ (List.mem_of_getElem? (i := 195) rfl))))))))) rfl
theorem tw_1636 : (Jvm.Cond.code ({ cls := "BoyBishopModel", name := "bits", desc := "(I)I" } : Jvm.MethodName) prog_14_method_4_code (3 : Nat) (Option.some Jvm.ClassFile.FieldType.int)) ∈ gT := gT_in (List.mem_append_right _ (List.mem_append_right _ (List.mem_append_right _ (List.mem_append_right _ (List.mem_append_right _ (List.mem_append_right _ (List.mem_append_right _ (List.mem_append_left _ (List.mem_of_getElem? (i := 196) rfl))))))))) rfl
theorem tw_1656 : (Jvm.Cond.methodLink "BoyBishopModel" (427 : Nat) ({ cls := "BoyBishopModel", name := "isWonBy", desc := "(II)Z" } : Jvm.MethodName)) ∈ gT := gT_in (List.mem_append_right _ (List.mem_append_right _ (List.mem_append_right _ (List.mem_append_right _ (List.mem_append_right _ (List.mem_append_right _ (List.mem_append_right _ (List.mem_append_left _ (List.mem_of_getElem? (i := 216) rfl))))))))) rfl
theorem tw_1658 : (Jvm.Cond.instanceMethod ({ cls := "BoyBishopModel", name := "isWonBy", desc := "(II)Z" } : Jvm.MethodName)) ∈ gT := gT_in (List.mem_append_right _ (List.mem_append_right _ (List.mem_append_right _ (List.mem_append_right _ (List.mem_append_right _ (List.mem_append_right _ (List.mem_append_right _ (List.mem_append_left _ (List.mem_of_getElem? (i := 218) rfl))))))))) rfl
theorem tw_1659 : (Jvm.Cond.code ({ cls := "BoyBishopModel", name := "isWonBy", desc := "(II)Z" } : Jvm.MethodName) prog_14_method_100_code (4 : Nat) (Option.some Jvm.ClassFile.FieldType.boolean)) ∈ gT := gT_in (List.mem_append_right _ (List.mem_append_right _ (List.mem_append_right _ (List.mem_append_right _ (List.mem_append_right _ (List.mem_append_right _ (List.mem_append_right _ (List.mem_append_left _ (List.mem_of_getElem? (i := 219) rfl))))))))) rfl
theorem dX12_rule_0 : decode cX12_rule 0 = .ok (.aload_n 0, 1) := by decide +kernel
theorem dX12_rule_1 : decode cX12_rule 1 = .ok (.getfield 271, 3) := by decide +kernel
theorem dX12_rule_4 : decode cX12_rule 4 = .ok (.bipush 6, 2) := by decide +kernel
theorem dX12_rule_6 : decode cX12_rule 6 = .ok (.if_icmp .ne 5, 3) := by decide +kernel
theorem dX12_rule_9 : decode cX12_rule 9 = .ok (.iconst (-1), 1) := by decide +kernel
theorem dX12_rule_10 : decode cX12_rule 10 = .ok (.ireturn, 1) := by decide +kernel
theorem dX12_rule_11 : decode cX12_rule 11 = .ok (.aload_n 0, 1) := by decide +kernel
theorem dX12_rule_12 : decode cX12_rule 12 = .ok (.aload_n 0, 1) := by decide +kernel
theorem dX12_rule_13 : decode cX12_rule 13 = .ok (.getfield 271, 3) := by decide +kernel
theorem dX12_rule_16 : decode cX12_rule 16 = .ok (.putfield 147, 3) := by decide +kernel
theorem dX12_rule_19 : decode cX12_rule 19 = .ok (.aload_n 0, 1) := by decide +kernel
theorem dX12_rule_20 : decode cX12_rule 20 = .ok (.getfield 23, 3) := by decide +kernel
theorem dX12_rule_23 : decode cX12_rule 23 = .ok (.aload_n 0, 1) := by decide +kernel
theorem dX12_rule_24 : decode cX12_rule 24 = .ok (.getfield 147, 3) := by decide +kernel
theorem dX12_rule_27 : decode cX12_rule 27 = .ok (.iconst 0, 1) := by decide +kernel
theorem dX12_rule_28 : decode cX12_rule 28 = .ok (.iastore, 1) := by decide +kernel
theorem dX12_rule_29 : decode cX12_rule 29 = .ok (.aload_n 0, 1) := by decide +kernel
theorem dX12_rule_30 : decode cX12_rule 30 = .ok (.invokevirtual 274, 3) := by decide +kernel
theorem dX12_rule_33 : decode cX12_rule 33 = .ok (.ifCond .ne 11, 3) := by decide +kernel
theorem dX12_rule_36 : decode cX12_rule 36 = .ok (.bipush (-2), 2) := by decide +kernel
theorem dX12_rule_38 : decode cX12_rule 38 = .ok (.aload_n 0, 1) := by decide +kernel
theorem dX12_rule_39 : decode cX12_rule 39 = .ok (.getfield 90, 3) := by decide +kernel
theorem dX12_rule_42 : decode cX12_rule 42 = .ok (.isub, 1) := by decide +kernel
theorem dX12_rule_43 : decode cX12_rule 43 = .ok (.ireturn, 1) := by decide +kernel
theorem dX12_rule_44 : decode cX12_rule 44 = .ok (.aload_n 0, 1) := by decide +kernel
theorem dX12_rule_45 : decode cX12_rule 45 = .ok (.dup, 1) := by decide +kernel
theorem dX12_rule_46 : decode cX12_rule 46 = .ok (.getfield 271, 3) := by decide +kernel
theorem dX12_rule_49 : decode cX12_rule 49 = .ok (.iconst 1, 1) := by decide +kernel
theorem dX12_rule_50 : decode cX12_rule 50 = .ok (.iadd, 1) := by decide +kernel
theorem dX12_rule_51 : decode cX12_rule 51 = .ok (.putfield 271, 3) := by decide +kernel
theorem dX12_rule_54 : decode cX12_rule 54 = .ok (.aload_n 0, 1) := by decide +kernel
theorem dX12_rule_55 : decode cX12_rule 55 = .ok (.getfield 271, 3) := by decide +kernel
theorem dX12_rule_58 : decode cX12_rule 58 = .ok (.iconst 1, 1) := by decide +kernel
theorem dX12_rule_59 : decode cX12_rule 59 = .ok (.isub, 1) := by decide +kernel
theorem dX12_rule_60 : decode cX12_rule 60 = .ok (.ireturn, 1) := by decide +kernel
theorem dX12_ruled_0 : decode cX12_ruled 0 = .ok (.aload_n 0, 1) := by decide +kernel
theorem dX12_ruled_1 : decode cX12_ruled 1 = .ok (.invokevirtual 379, 3) := by decide +kernel
theorem dX12_ruled_4 : decode cX12_ruled 4 = .ok (.ifCond .eq 13, 3) := by decide +kernel
theorem dX12_ruled_7 : decode cX12_ruled 7 = .ok (.iload_n 1, 1) := by decide +kernel
theorem dX12_ruled_8 : decode cX12_ruled 8 = .ok (.i2l, 1) := by decide +kernel
theorem dX12_ruled_9 : decode cX12_ruled 9 = .ok (.lconst 0, 1) := by decide +kernel
theorem dX12_ruled_10 : decode cX12_ruled 10 = .ok (.lconst 1, 1) := by decide +kernel
theorem dX12_ruled_11 : decode cX12_ruled 11 = .ok (.invokestatic 121, 3) := by decide +kernel
theorem dX12_ruled_14 : decode cX12_ruled 14 = .ok (.ifCond .ne 6, 3) := by decide +kernel
theorem dX12_ruled_17 : decode cX12_ruled 17 = .ok (.bipush (-3), 2) := by decide +kernel
theorem dX12_ruled_19 : decode cX12_ruled 19 = .ok (.ireturn, 1) := by decide +kernel
theorem dX12_ruled_20 : decode cX12_ruled 20 = .ok (.aload_n 0, 1) := by decide +kernel
theorem dX12_ruled_21 : decode cX12_ruled 21 = .ok (.invokevirtual 450, 3) := by decide +kernel
theorem dX12_ruled_24 : decode cX12_ruled 24 = .ok (.iconst 0, 1) := by decide +kernel
theorem dX12_ruled_25 : decode cX12_ruled 25 = .ok (.istore_n 2, 1) := by decide +kernel
theorem dX12_ruled_26 : decode cX12_ruled 26 = .ok (.bipush (-2), 2) := by decide +kernel
theorem dX12_ruled_28 : decode cX12_ruled 28 = .ok (.istore_n 3, 1) := by decide +kernel
theorem dX12_ruled_29 : decode cX12_ruled 29 = .ok (.aload_n 0, 1) := by decide +kernel
theorem dX12_ruled_30 : decode cX12_ruled 30 = .ok (.getfield 271, 3) := by decide +kernel
theorem dX12_ruled_33 : decode cX12_ruled 33 = .ok (.istore 4, 2) := by decide +kernel
theorem dX12_ruled_35 : decode cX12_ruled 35 = .ok (.iload 4, 2) := by decide +kernel
theorem dX12_ruled_37 : decode cX12_ruled 37 = .ok (.ifCond .lt 30, 3) := by decide +kernel
theorem dX12_ruled_40 : decode cX12_ruled 40 = .ok (.aload_n 0, 1) := by decide +kernel
theorem dX12_ruled_41 : decode cX12_ruled 41 = .ok (.getfield 64, 3) := by decide +kernel
theorem dX12_ruled_44 : decode cX12_ruled 44 = .ok (.iload 4, 2) := by decide +kernel
theorem dX12_ruled_46 : decode cX12_ruled 46 = .ok (.baload, 1) := by decide +kernel
theorem dX12_ruled_47 : decode cX12_ruled 47 = .ok (.ifCond .ne 6, 3) := by decide +kernel
theorem dX12_ruled_50 : decode cX12_ruled 50 = .ok (.goto 11, 3) := by decide +kernel
theorem dX12_ruled_53 : decode cX12_ruled 53 = .ok (.iload 4, 2) := by decide +kernel
theorem dX12_ruled_55 : decode cX12_ruled 55 = .ok (.iconst 1, 1) := by decide +kernel
theorem dX12_ruled_56 : decode cX12_ruled 56 = .ok (.isub, 1) := by decide +kernel
theorem dX12_ruled_57 : decode cX12_ruled 57 = .ok (.istore_n 3, 1) := by decide +kernel
theorem dX12_ruled_58 : decode cX12_ruled 58 = .ok (.iinc 2 1, 3) := by decide +kernel
theorem dX12_ruled_61 : decode cX12_ruled 61 = .ok (.iinc 4 (-1), 3) := by decide +kernel
theorem dX12_ruled_64 : decode cX12_ruled 64 = .ok (.goto (-29), 3) := by decide +kernel
theorem dX12_ruled_67 : decode cX12_ruled 67 = .ok (.iload_n 1, 1) := by decide +kernel
theorem dX12_ruled_68 : decode cX12_ruled 68 = .ok (.ifCond .ne 7, 3) := by decide +kernel
theorem dX12_ruled_71 : decode cX12_ruled 71 = .ok (.iload_n 2, 1) := by decide +kernel
theorem dX12_ruled_72 : decode cX12_ruled 72 = .ok (.goto 4, 3) := by decide +kernel
theorem dX12_ruled_75 : decode cX12_ruled 75 = .ok (.iload_n 3, 1) := by decide +kernel
theorem dX12_ruled_76 : decode cX12_ruled 76 = .ok (.ireturn, 1) := by decide +kernel
theorem dX12_seed_0 : decode cX12_seed 0 = .ok (.iload_n 1, 1) := by decide +kernel
theorem dX12_seed_1 : decode cX12_seed 1 = .ok (.ifCond .ge 5, 3) := by decide +kernel
theorem dX12_seed_4 : decode cX12_seed 4 = .ok (.iconst (-1), 1) := by decide +kernel
theorem dX12_seed_5 : decode cX12_seed 5 = .ok (.ireturn, 1) := by decide +kernel
theorem dX12_seed_6 : decode cX12_seed 6 = .ok (.aload_n 0, 1) := by decide +kernel
theorem dX12_seed_7 : decode cX12_seed 7 = .ok (.getfield 456, 3) := by decide +kernel
theorem dX12_seed_10 : decode cX12_seed 10 = .ok (.istore_n 2, 1) := by decide +kernel
theorem dX12_seed_11 : decode cX12_seed 11 = .ok (.aload_n 0, 1) := by decide +kernel
theorem dX12_seed_12 : decode cX12_seed 12 = .ok (.iload_n 1, 1) := by decide +kernel
theorem dX12_seed_13 : decode cX12_seed 13 = .ok (.putfield 456, 3) := by decide +kernel
theorem dX12_seed_16 : decode cX12_seed 16 = .ok (.iload_n 2, 1) := by decide +kernel
theorem dX12_seed_17 : decode cX12_seed 17 = .ok (.ireturn, 1) := by decide +kernel
theorem dX12_undo_0 : decode cX12_undo 0 = .ok (.aload_n 0, 1) := by decide +kernel
theorem dX12_undo_1 : decode cX12_undo 1 = .ok (.getfield 283, 3) := by decide +kernel
theorem dX12_undo_4 : decode cX12_undo 4 = .ok (.ifCond .ne 5, 3) := by decide +kernel
theorem dX12_undo_7 : decode cX12_undo 7 = .ok (.iconst (-1), 1) := by decide +kernel
theorem dX12_undo_8 : decode cX12_undo 8 = .ok (.ireturn, 1) := by decide +kernel
theorem dX12_undo_9 : decode cX12_undo 9 = .ok (.aload_n 0, 1) := by decide +kernel
theorem dX12_undo_10 : decode cX12_undo 10 = .ok (.dup, 1) := by decide +kernel
theorem dX12_undo_11 : decode cX12_undo 11 = .ok (.getfield 283, 3) := by decide +kernel
theorem dX12_undo_14 : decode cX12_undo 14 = .ok (.iconst 1, 1) := by decide +kernel
theorem dX12_undo_15 : decode cX12_undo 15 = .ok (.isub, 1) := by decide +kernel
theorem dX12_undo_16 : decode cX12_undo 16 = .ok (.putfield 283, 3) := by decide +kernel
theorem dX12_undo_19 : decode cX12_undo 19 = .ok (.iconst 0, 1) := by decide +kernel
theorem dX12_undo_20 : decode cX12_undo 20 = .ok (.istore_n 1, 1) := by decide +kernel
theorem dX12_undo_21 : decode cX12_undo 21 = .ok (.iload_n 1, 1) := by decide +kernel
theorem dX12_undo_22 : decode cX12_undo 22 = .ok (.bipush 42, 2) := by decide +kernel
theorem dX12_undo_24 : decode cX12_undo 24 = .ok (.if_icmp .ge 32, 3) := by decide +kernel
theorem dX12_undo_27 : decode cX12_undo 27 = .ok (.aload_n 0, 1) := by decide +kernel
theorem dX12_undo_28 : decode cX12_undo 28 = .ok (.getfield 39, 3) := by decide +kernel
theorem dX12_undo_31 : decode cX12_undo 31 = .ok (.bipush 10, 2) := by decide +kernel
theorem dX12_undo_33 : decode cX12_undo 33 = .ok (.iload_n 1, 1) := by decide +kernel
theorem dX12_undo_34 : decode cX12_undo 34 = .ok (.iadd, 1) := by decide +kernel
theorem dX12_undo_35 : decode cX12_undo 35 = .ok (.aload_n 0, 1) := by decide +kernel
theorem dX12_undo_36 : decode cX12_undo 36 = .ok (.getfield 49, 3) := by decide +kernel
theorem dX12_undo_39 : decode cX12_undo 39 = .ok (.bipush 42, 2) := by decide +kernel
theorem dX12_undo_41 : decode cX12_undo 41 = .ok (.aload_n 0, 1) := by decide +kernel
theorem dX12_undo_42 : decode cX12_undo 42 = .ok (.getfield 283, 3) := by decide +kernel
theorem dX12_undo_45 : decode cX12_undo 45 = .ok (.imul, 1) := by decide +kernel
theorem dX12_undo_46 : decode cX12_undo 46 = .ok (.iload_n 1, 1) := by decide +kernel
theorem dX12_undo_47 : decode cX12_undo 47 = .ok (.iadd, 1) := by decide +kernel
theorem dX12_undo_48 : decode cX12_undo 48 = .ok (.iaload, 1) := by decide +kernel
theorem dX12_undo_49 : decode cX12_undo 49 = .ok (.iastore, 1) := by decide +kernel
theorem dX12_undo_50 : decode cX12_undo 50 = .ok (.iinc 1 1, 3) := by decide +kernel
theorem dX12_undo_53 : decode cX12_undo 53 = .ok (.goto (-32), 3) := by decide +kernel
theorem dX12_undo_56 : decode cX12_undo 56 = .ok (.aload_n 0, 1) := by decide +kernel
theorem dX12_undo_57 : decode cX12_undo 57 = .ok (.getfield 283, 3) := by decide +kernel
theorem dX12_undo_60 : decode cX12_undo 60 = .ok (.ireturn, 1) := by decide +kernel
theorem dX12_visit_0 : decode cX12_visit 0 = .ok (.aload_n 0, 1) := by decide +kernel
theorem dX12_visit_1 : decode cX12_visit 1 = .ok (.iload_n 1, 1) := by decide +kernel
theorem dX12_visit_2 : decode cX12_visit 2 = .ok (.invokevirtual 325, 3) := by decide +kernel
theorem dX12_visit_5 : decode cX12_visit 5 = .ok (.ifCond .eq 24, 3) := by decide +kernel
theorem dX12_visit_8 : decode cX12_visit 8 = .ok (.aload_n 0, 1) := by decide +kernel
theorem dX12_visit_9 : decode cX12_visit 9 = .ok (.getfield 39, 3) := by decide +kernel
theorem dX12_visit_12 : decode cX12_visit 12 = .ok (.bipush 11, 2) := by decide +kernel
theorem dX12_visit_14 : decode cX12_visit 14 = .ok (.iaload, 1) := by decide +kernel
theorem dX12_visit_15 : decode cX12_visit 15 = .ok (.ifCond .lt 14, 3) := by decide +kernel
theorem dX12_visit_18 : decode cX12_visit 18 = .ok (.aload_n 0, 1) := by decide +kernel
theorem dX12_visit_19 : decode cX12_visit 19 = .ok (.getfield 39, 3) := by decide +kernel
theorem dX12_visit_22 : decode cX12_visit 22 = .ok (.bipush 15, 2) := by decide +kernel
theorem dX12_visit_24 : decode cX12_visit 24 = .ok (.iaload, 1) := by decide +kernel
theorem dX12_visit_25 : decode cX12_visit 25 = .ok (.iconst 1, 1) := by decide +kernel
theorem dX12_visit_26 : decode cX12_visit 26 = .ok (.if_icmp .ne 5, 3) := by decide +kernel
theorem dX12_visit_29 : decode cX12_visit 29 = .ok (.iconst (-1), 1) := by decide +kernel
theorem dX12_visit_30 : decode cX12_visit 30 = .ok (.ireturn, 1) := by decide +kernel
theorem dX12_visit_31 : decode cX12_visit 31 = .ok (.aload_n 0, 1) := by decide +kernel
theorem dX12_visit_32 : decode cX12_visit 32 = .ok (.iconst 0, 1) := by decide +kernel
theorem dX12_visit_33 : decode cX12_visit 33 = .ok (.iload_n 1, 1) := by decide +kernel
theorem dX12_visit_34 : decode cX12_visit 34 = .ok (.iconst 1, 1) := by decide +kernel
theorem dX12_visit_35 : decode cX12_visit 35 = .ok (.iadd, 1) := by decide +kernel
theorem dX12_visit_36 : decode cX12_visit 36 = .ok (.invokevirtual 317, 3) := by decide +kernel
theorem dX12_visit_39 : decode cX12_visit 39 = .ok (.aload_n 0, 1) := by decide +kernel
theorem dX12_visit_40 : decode cX12_visit 40 = .ok (.invokevirtual 367, 3) := by decide +kernel
theorem dX12_visit_43 : decode cX12_visit 43 = .ok (.ifCond .eq 7, 3) := by decide +kernel
theorem dX12_visit_46 : decode cX12_visit 46 = .ok (.iconst 4, 1) := by decide +kernel
theorem dX12_visit_47 : decode cX12_visit 47 = .ok (.goto 4, 3) := by decide +kernel
theorem dX12_visit_50 : decode cX12_visit 50 = .ok (.iconst 2, 1) := by decide +kernel
theorem dX12_visit_51 : decode cX12_visit 51 = .ok (.imul, 1) := by decide +kernel
theorem dX12_visit_52 : decode cX12_visit 52 = .ok (.aload_n 0, 1) := by decide +kernel
theorem dX12_visit_53 : decode cX12_visit 53 = .ok (.getfield 39, 3) := by decide +kernel
theorem dX12_visit_56 : decode cX12_visit 56 = .ok (.iconst 2, 1) := by decide +kernel
theorem dX12_visit_57 : decode cX12_visit 57 = .ok (.iaload, 1) := by decide +kernel
theorem dX12_visit_58 : decode cX12_visit 58 = .ok (.if_icmp .le 5, 3) := by decide +kernel
theorem dX12_visit_61 : decode cX12_visit 61 = .ok (.iconst (-1), 1) := by decide +kernel
theorem dX12_visit_62 : decode cX12_visit 62 = .ok (.ireturn, 1) := by decide +kernel
theorem dX12_visit_63 : decode cX12_visit 63 = .ok (.aload_n 0, 1) := by decide +kernel
theorem dX12_visit_64 : decode cX12_visit 64 = .ok (.invokevirtual 382, 3) := by decide +kernel
theorem dX12_visit_67 : decode cX12_visit 67 = .ok (.aload_n 0, 1) := by decide +kernel
theorem dX12_visit_68 : decode cX12_visit 68 = .ok (.getfield 39, 3) := by decide +kernel
theorem dX12_visit_71 : decode cX12_visit 71 = .ok (.bipush 34, 2) := by decide +kernel
theorem dX12_visit_73 : decode cX12_visit 73 = .ok (.iload_n 1, 1) := by decide +kernel
theorem dX12_visit_74 : decode cX12_visit 74 = .ok (.iadd, 1) := by decide +kernel
theorem dX12_visit_75 : decode cX12_visit 75 = .ok (.iaload, 1) := by decide +kernel
theorem dX12_visit_76 : decode cX12_visit 76 = .ok (.istore_n 2, 1) := by decide +kernel
theorem dX12_visit_77 : decode cX12_visit 77 = .ok (.iload_n 2, 1) := by decide +kernel
theorem dX12_visit_78 : decode cX12_visit 78 = .ok (.aload_n 0, 1) := by decide +kernel
theorem dX12_visit_79 : decode cX12_visit 79 = .ok (.aload_n 0, 1) := by decide +kernel
theorem dX12_visit_80 : decode cX12_visit 80 = .ok (.getfield 39, 3) := by decide +kernel
theorem dX12_visit_83 : decode cX12_visit 83 = .ok (.bipush 11, 2) := by decide +kernel
theorem dX12_visit_85 : decode cX12_visit 85 = .ok (.iaload, 1) := by decide +kernel
theorem dX12_visit_86 : decode cX12_visit 86 = .ok (.iconst 1, 1) := by decide +kernel
theorem dX12_visit_87 : decode cX12_visit 87 = .ok (.invokevirtual 304, 3) := by decide +kernel
theorem dX12_visit_90 : decode cX12_visit 90 = .ok (.imul, 1) := by decide +kernel
theorem dX12_visit_91 : decode cX12_visit 91 = .ok (.bipush 99, 2) := by decide +kernel
theorem dX12_visit_93 : decode cX12_visit 93 = .ok (.iadd, 1) := by decide +kernel
theorem dX12_visit_94 : decode cX12_visit 94 = .ok (.bipush 100, 2) := by decide +kernel
theorem dX12_visit_96 : decode cX12_visit 96 = .ok (.idiv, 1) := by decide +kernel
theorem dX12_visit_97 : decode cX12_visit 97 = .ok (.istore_n 3, 1) := by decide +kernel
theorem dX12_visit_98 : decode cX12_visit 98 = .ok (.aload_n 0, 1) := by decide +kernel
theorem dX12_visit_99 : decode cX12_visit 99 = .ok (.getfield 39, 3) := by decide +kernel
theorem dX12_visit_102 : decode cX12_visit 102 = .ok (.bipush 34, 2) := by decide +kernel
theorem dX12_visit_104 : decode cX12_visit 104 = .ok (.iload_n 1, 1) := by decide +kernel
theorem dX12_visit_105 : decode cX12_visit 105 = .ok (.iadd, 1) := by decide +kernel
theorem dX12_visit_106 : decode cX12_visit 106 = .ok (.iconst 0, 1) := by decide +kernel
theorem dX12_visit_107 : decode cX12_visit 107 = .ok (.iastore, 1) := by decide +kernel
theorem dX12_visit_108 : decode cX12_visit 108 = .ok (.aload_n 0, 1) := by decide +kernel
theorem dX12_visit_109 : decode cX12_visit 109 = .ok (.getfield 39, 3) := by decide +kernel
theorem dX12_visit_112 : decode cX12_visit 112 = .ok (.bipush 13, 2) := by decide +kernel
theorem dX12_visit_114 : decode cX12_visit 114 = .ok (.aload_n 0, 1) := by decide +kernel
theorem dX12_visit_115 : decode cX12_visit 115 = .ok (.getfield 39, 3) := by decide +kernel
theorem dX12_visit_118 : decode cX12_visit 118 = .ok (.bipush 13, 2) := by decide +kernel
theorem dX12_visit_120 : decode cX12_visit 120 = .ok (.iaload, 1) := by decide +kernel
theorem dX12_visit_121 : decode cX12_visit 121 = .ok (.iload_n 2, 1) := by decide +kernel
theorem dX12_visit_122 : decode cX12_visit 122 = .ok (.iadd, 1) := by decide +kernel
theorem dX12_visit_123 : decode cX12_visit 123 = .ok (.iload_n 3, 1) := by decide +kernel
theorem dX12_visit_124 : decode cX12_visit 124 = .ok (.isub, 1) := by decide +kernel
theorem dX12_visit_125 : decode cX12_visit 125 = .ok (.ldc 167, 2) := by decide +kernel
theorem dX12_visit_127 : decode cX12_visit 127 = .ok (.invokestatic 370, 3) := by decide +kernel
theorem dX12_visit_130 : decode cX12_visit 130 = .ok (.iastore, 1) := by decide +kernel
theorem dX12_visit_131 : decode cX12_visit 131 = .ok (.aload_n 0, 1) := by decide +kernel
theorem dX12_visit_132 : decode cX12_visit 132 = .ok (.getfield 39, 3) := by decide +kernel
theorem dX12_visit_135 : decode cX12_visit 135 = .ok (.bipush 14, 2) := by decide +kernel
theorem dX12_visit_137 : decode cX12_visit 137 = .ok (.aload_n 0, 1) := by decide +kernel
theorem dX12_visit_138 : decode cX12_visit 138 = .ok (.getfield 39, 3) := by decide +kernel
theorem dX12_visit_141 : decode cX12_visit 141 = .ok (.bipush 14, 2) := by decide +kernel
theorem dX12_visit_143 : decode cX12_visit 143 = .ok (.iaload, 1) := by decide +kernel
theorem dX12_visit_144 : decode cX12_visit 144 = .ok (.iload_n 3, 1) := by decide +kernel
theorem dX12_visit_145 : decode cX12_visit 145 = .ok (.iadd, 1) := by decide +kernel
theorem dX12_visit_146 : decode cX12_visit 146 = .ok (.ldc 167, 2) := by decide +kernel
theorem dX12_visit_148 : decode cX12_visit 148 = .ok (.invokestatic 370, 3) := by decide +kernel
theorem dX12_visit_151 : decode cX12_visit 151 = .ok (.iastore, 1) := by decide +kernel
theorem dX12_visit_152 : decode cX12_visit 152 = .ok (.aload_n 0, 1) := by decide +kernel
theorem dX12_visit_153 : decode cX12_visit 153 = .ok (.getfield 39, 3) := by decide +kernel
theorem dX12_visit_156 : decode cX12_visit 156 = .ok (.bipush 15, 2) := by decide +kernel
theorem dX12_visit_158 : decode cX12_visit 158 = .ok (.iconst 1, 1) := by decide +kernel
theorem dX12_visit_159 : decode cX12_visit 159 = .ok (.iastore, 1) := by decide +kernel
theorem dX12_visit_160 : decode cX12_visit 160 = .ok (.iload_n 2, 1) := by decide +kernel
theorem dX12_visit_161 : decode cX12_visit 161 = .ok (.iload_n 3, 1) := by decide +kernel
theorem dX12_visit_162 : decode cX12_visit 162 = .ok (.isub, 1) := by decide +kernel
theorem dX12_visit_163 : decode cX12_visit 163 = .ok (.ireturn, 1) := by decide +kernel
theorem dX12_votes_0 : decode cX12_votes 0 = .ok (.aload_n 0, 1) := by decide +kernel
theorem dX12_votes_1 : decode cX12_votes 1 = .ok (.invokevirtual 379, 3) := by decide +kernel
theorem dX12_votes_4 : decode cX12_votes 4 = .ok (.ifCond .eq 28, 3) := by decide +kernel
theorem dX12_votes_7 : decode cX12_votes 7 = .ok (.iload_n 2, 1) := by decide +kernel
theorem dX12_votes_8 : decode cX12_votes 8 = .ok (.i2l, 1) := by decide +kernel
theorem dX12_votes_9 : decode cX12_votes 9 = .ok (.lconst 0, 1) := by decide +kernel
theorem dX12_votes_10 : decode cX12_votes 10 = .ok (.ldc2_w 392, 3) := by decide +kernel
theorem dX12_votes_13 : decode cX12_votes 13 = .ok (.invokestatic 121, 3) := by decide +kernel
theorem dX12_votes_16 : decode cX12_votes 16 = .ok (.ifCond .eq 16, 3) := by decide +kernel
theorem dX12_votes_19 : decode cX12_votes 19 = .ok (.iload_n 2, 1) := by decide +kernel
theorem dX12_votes_20 : decode cX12_votes 20 = .ok (.iconst 2, 1) := by decide +kernel
theorem dX12_votes_21 : decode cX12_votes 21 = .ok (.if_icmp .ge 14, 3) := by decide +kernel
theorem dX12_votes_24 : decode cX12_votes 24 = .ok (.aload_n 0, 1) := by decide +kernel
theorem dX12_votes_25 : decode cX12_votes 25 = .ok (.iload_n 1, 1) := by decide +kernel
theorem dX12_votes_26 : decode cX12_votes 26 = .ok (.invokevirtual 301, 3) := by decide +kernel
theorem dX12_votes_29 : decode cX12_votes 29 = .ok (.ifCond .ne 6, 3) := by decide +kernel
theorem dX12_votes_32 : decode cX12_votes 32 = .ok (.bipush (-2), 2) := by decide +kernel
theorem dX12_votes_34 : decode cX12_votes 34 = .ok (.ireturn, 1) := by decide +kernel
theorem dX12_votes_35 : decode cX12_votes 35 = .ok (.aload_n 0, 1) := by decide +kernel
theorem dX12_votes_36 : decode cX12_votes 36 = .ok (.invokevirtual 349, 3) := by decide +kernel
theorem dX12_votes_39 : decode cX12_votes 39 = .ok (.iload_n 2, 1) := by decide +kernel
theorem dX12_votes_40 : decode cX12_votes 40 = .ok (.ifCond .ne 12, 3) := by decide +kernel
theorem dX12_votes_43 : decode cX12_votes 43 = .ok (.aload_n 0, 1) := by decide +kernel
theorem dX12_votes_44 : decode cX12_votes 44 = .ok (.getfield 46, 3) := by decide +kernel
theorem dX12_votes_47 : decode cX12_votes 47 = .ok (.iload_n 1, 1) := by decide +kernel
theorem dX12_votes_48 : decode cX12_votes 48 = .ok (.iaload, 1) := by decide +kernel
theorem dX12_votes_49 : decode cX12_votes 49 = .ok (.goto 20, 3) := by decide +kernel
theorem dX12_votes_52 : decode cX12_votes 52 = .ok (.iload_n 2, 1) := by decide +kernel
theorem dX12_votes_53 : decode cX12_votes 53 = .ok (.iconst 1, 1) := by decide +kernel
theorem dX12_votes_54 : decode cX12_votes 54 = .ok (.if_icmp .ne 11, 3) := by decide +kernel
theorem dX12_votes_57 : decode cX12_votes 57 = .ok (.aload_n 0, 1) := by decide +kernel
theorem dX12_votes_58 : decode cX12_votes 58 = .ok (.iload_n 1, 1) := by decide +kernel
theorem dX12_votes_59 : decode cX12_votes 59 = .ok (.invokevirtual 346, 3) := by decide +kernel
theorem dX12_votes_62 : decode cX12_votes 62 = .ok (.goto 7, 3) := by decide +kernel
theorem dX12_votes_65 : decode cX12_votes 65 = .ok (.aload_n 0, 1) := by decide +kernel
theorem dX12_votes_66 : decode cX12_votes 66 = .ok (.invokevirtual 352, 3) := by decide +kernel
theorem dX12_votes_69 : decode cX12_votes 69 = .ok (.ireturn, 1) := by decide +kernel
theorem dX12_winOver_0 : decode cX12_winOver 0 = .ok (.aload_n 0, 1) := by decide +kernel
theorem dX12_winOver_1 : decode cX12_winOver 1 = .ok (.iload_n 1, 1) := by decide +kernel
theorem dX12_winOver_2 : decode cX12_winOver 2 = .ok (.invokevirtual 314, 3) := by decide +kernel
theorem dX12_winOver_5 : decode cX12_winOver 5 = .ok (.ifCond .eq 13, 3) := by decide +kernel
theorem dX12_winOver_8 : decode cX12_winOver 8 = .ok (.iload_n 2, 1) := by decide +kernel
theorem dX12_winOver_9 : decode cX12_winOver 9 = .ok (.i2l, 1) := by decide +kernel
theorem dX12_winOver_10 : decode cX12_winOver 10 = .ok (.lconst 0, 1) := by decide +kernel
theorem dX12_winOver_11 : decode cX12_winOver 11 = .ok (.lconst 1, 1) := by decide +kernel
theorem dX12_winOver_12 : decode cX12_winOver 12 = .ok (.invokestatic 121, 3) := by decide +kernel
theorem dX12_winOver_15 : decode cX12_winOver 15 = .ok (.ifCond .ne 5, 3) := by decide +kernel
theorem dX12_winOver_18 : decode cX12_winOver 18 = .ok (.iconst (-1), 1) := by decide +kernel
theorem dX12_winOver_19 : decode cX12_winOver 19 = .ok (.ireturn, 1) := by decide +kernel
theorem dX12_winOver_20 : decode cX12_winOver 20 = .ok (.iconst (-1), 1) := by decide +kernel
theorem dX12_winOver_21 : decode cX12_winOver 21 = .ok (.istore_n 3, 1) := by decide +kernel
theorem dX12_winOver_22 : decode cX12_winOver 22 = .ok (.iconst 0, 1) := by decide +kernel
theorem dX12_winOver_23 : decode cX12_winOver 23 = .ok (.istore 4, 2) := by decide +kernel
theorem dX12_winOver_25 : decode cX12_winOver 25 = .ok (.iload 4, 2) := by decide +kernel
theorem dX12_winOver_27 : decode cX12_winOver 27 = .ok (.iconst 1, 1) := by decide +kernel
theorem dX12_winOver_28 : decode cX12_winOver 28 = .ok (.aload_n 0, 1) := by decide +kernel
theorem dX12_winOver_29 : decode cX12_winOver 29 = .ok (.getfield 39, 3) := by decide +kernel
theorem dX12_winOver_32 : decode cX12_winOver 32 = .ok (.iconst 3, 1) := by decide +kernel
theorem dX12_winOver_33 : decode cX12_winOver 33 = .ok (.iaload, 1) := by decide +kernel
theorem dX12_winOver_34 : decode cX12_winOver 34 = .ok (.ishl, 1) := by decide +kernel
theorem dX12_winOver_35 : decode cX12_winOver 35 = .ok (.if_icmp .ge 38, 3) := by decide +kernel
theorem dX12_winOver_38 : decode cX12_winOver 38 = .ok (.iload_n 3, 1) := by decide +kernel
theorem dX12_winOver_39 : decode cX12_winOver 39 = .ok (.ifCond .lt 15, 3) := by decide +kernel
theorem dX12_winOver_42 : decode cX12_winOver 42 = .ok (.iload 4, 2) := by decide +kernel
theorem dX12_winOver_44 : decode cX12_winOver 44 = .ok (.invokestatic 409, 3) := by decide +kernel
theorem dX12_winOver_47 : decode cX12_winOver 47 = .ok (.iload_n 3, 1) := by decide +kernel
theorem dX12_winOver_48 : decode cX12_winOver 48 = .ok (.invokestatic 409, 3) := by decide +kernel
theorem dX12_winOver_51 : decode cX12_winOver 51 = .ok (.if_icmp .ge 16, 3) := by decide +kernel
theorem dX12_winOver_54 : decode cX12_winOver 54 = .ok (.aload_n 0, 1) := by decide +kernel
theorem dX12_winOver_55 : decode cX12_winOver 55 = .ok (.iload_n 1, 1) := by decide +kernel
theorem dX12_winOver_56 : decode cX12_winOver 56 = .ok (.iload 4, 2) := by decide +kernel
theorem dX12_winOver_58 : decode cX12_winOver 58 = .ok (.invokevirtual 427, 3) := by decide +kernel
theorem dX12_winOver_61 : decode cX12_winOver 61 = .ok (.ifCond .eq 6, 3) := by decide +kernel
theorem dX12_winOver_64 : decode cX12_winOver 64 = .ok (.iload 4, 2) := by decide +kernel
theorem dX12_winOver_66 : decode cX12_winOver 66 = .ok (.istore_n 3, 1) := by decide +kernel
theorem dX12_winOver_67 : decode cX12_winOver 67 = .ok (.iinc 4 1, 3) := by decide +kernel
theorem dX12_winOver_70 : decode cX12_winOver 70 = .ok (.goto (-45), 3) := by decide +kernel
theorem dX12_winOver_73 : decode cX12_winOver 73 = .ok (.iload_n 2, 1) := by decide +kernel
theorem dX12_winOver_74 : decode cX12_winOver 74 = .ok (.ifCond .ne 10, 3) := by decide +kernel
theorem dX12_winOver_77 : decode cX12_winOver 77 = .ok (.iload_n 3, 1) := by decide +kernel
theorem dX12_winOver_78 : decode cX12_winOver 78 = .ok (.invokestatic 409, 3) := by decide +kernel
theorem dX12_winOver_81 : decode cX12_winOver 81 = .ok (.goto 4, 3) := by decide +kernel
theorem dX12_winOver_84 : decode cX12_winOver 84 = .ok (.iload_n 3, 1) := by decide +kernel
theorem dX12_winOver_85 : decode cX12_winOver 85 = .ok (.ireturn, 1) := by decide +kernel
set_option maxHeartbeats 4000000 in
set_option maxRecDepth 100000 in
theorem t_X12_rule (l : Launch) (dC : Nat → ClassId) (dI : Nat → Nat → Nat) (tys : List (ClassId × FieldType)) (κ : tK) (B : Nat) (ws : va_W) (hT : Ty κ tys B ws) (a0 : Nat) (k_a0 : κ a0 = some 12) (sz : Nat) : Met l yX12_rule (ws_u yX12_rule cX12_rule 1 (some .int)) ({ frames := 13, cells := 0, slots := 0, locals := 421 }) (va_Pc [.ref a0] (cPre (dC, dI) tys ws sz)) (va_Qi (fun (r : Int32) (w : va_W) => Ty κ tys B w ∧ Sm [(12, 1), (12, 2), (12, 8), (12, 9), (12, 10), (12, 11), (12, 12), (12, 13), (12, 14), (12, 16)] [55, 56, 57, 58, 59, 60] κ ws w) (fun w t => cPost (dC, dI) tys w (va_A ws sz) t) (va_A ws sz)) 0 0 (va_A ws sz) := by
  refine Met.ofW (cc := cX12_rule) (maxL := 1) (ret := (some .int)) (by decide) rfl ?_
  intro p e s m args below meth c s₁ B0 hml hv
  obtain ⟨rfl, hsz, hP, hK, hD0, hE⟩ := hv
  have hx := B0.exec
  have hb := B0.bytes
  have hr := B0.returns
  have hts0 := atoms_spec (ws := ws_u yX12_rule cX12_rule 1 (some .int)) B0.pre
  have hts : ∀ w ∈ gT, w.before _ s = true := fun w h => hts0 w (List.mem_cons_of_mem _ h)
  have hown : s.vm.findClass RX12 = some m.cls := findClass_of_methodNamed B0.named
  have hlocks := B0.notSynchronized
  subst hsz
  have hD := hD0.self (sz := s.heap.size)
  generalize hAe : va_A ws s.heap.size = A at hD ⊢
  have hA : ∀ q : Nat, s.heap.size ≤ q → A q := fun q h => by rw [← hAe]; exact Or.inr h
  have hw : tW (dC, dI) tys κ B A s ws s.heap [] := ⟨hK, hP, hD, va_S.rf, hT⟩
  have hM : Sm [(12, 1), (12, 2), (12, 8), (12, 9), (12, 10), (12, 11), (12, 12), (12, 13), (12, 14), (12, 16)] [55, 56, 57, 58, 59, 60] κ ws ws := Sm.rf
  clear hP hK hD hD0 hts0
  have hl := lv_entry ([.ref a0]) (n := 1) (Nat.le_of_ble_eq_true rfl)
  rw [lg_entry_eq]
  generalize (lg_sl ([.ref a0]) ++ List.replicate (1 - (lg_sl ([.ref a0])).length) Slot.unset).toArray = ls at hl ⊢
  have hl : lv_has ls 1 [(0, .ref a0)] := hl
  refine t_start (fun QQ hQ => ?_)
  refine lv_aload_n hx hb dX12_rule_0 rfl (lv_at hl 0 rfl) ?_
  refine t_geti (ci := 12) (C := RX12) (T := TX12) (N := 38) hx hb hts iX12 hown hw k_a0 rfl rfl rfl 2 (by decide) (hts _ tw_1127) (fun _ h9 => h9) dX12_rule_1 rfl (fun v1 l_v1 h_v1 f_a0_X12_2 => ?_)
  have l_v1 : 0 ≤ v1.toInt := l_v1
  have h_v1 : v1.toInt ≤ 6 := h_v1
  refine lv_bipush (v := 6) hx hb dX12_rule_4 (by decide) ?_
  refine lv_icmp_ne (tgt := 11) hx hb dX12_rule_6 (by decide) (fun c_6 => ?_) (fun c_6 => ?_)
  · simp only [fa_lt, fa_le, fa_eq, li_6] at c_6
    refine lv_aload_n hx hb dX12_rule_11 rfl (lv_at hl 0 rfl) ?_
    refine lv_aload_n hx hb dX12_rule_12 rfl (lv_at hl 0 rfl) ?_
    refine t_getk (ci := 12) (C := RX12) (T := TX12) (N := 38) hx hb hts iX12 hown hw rfl 2 (by decide) (hts _ tw_1127) (fun _ h9 => h9) dX12_rule_13 f_a0_X12_2 ?_
    refine t_put (ci := 12) (C := RX12) (T := TX12) (N := 38) (v := .int v1) hx hb hts iX12 tyX12 tyX12_ok nmX12 hown hw k_a0 rfl rfl rfl 11 (by decide) (hts _ tw_1136) (fun _ h9 => h9) rfl (tyX12_ok 11 (by decide)) rfl rfl (okV.int rfl (by omega) (by omega)) dX12_rule_16 (fun w_1 H locs hw u => ?_)
    have hM := hM.up1 u (by decide)
    have f_a0_X12_2 := u.1 _ _ _ _ f_a0_X12_2 (Or.inr (Or.inr (by decide)))
    have f_a0_X12_11 := u.2.2
    refine lv_aload_n hx hb dX12_rule_19 rfl (lv_at hl 0 rfl) ?_
    refine t_getr (k1 := 58) (ci := 12) (C := RX12) (T := TX12) (N := 38) hx hb hts iX12 hown hw k_a0 rfl rfl rfl 6 (by decide) (hts _ tw_1131) (fun _ h9 => h9) dX12_rule_20 rfl (fun v20 k_v20 f_a0_X12_6 => ?_)
    refine lv_aload_n hx hb dX12_rule_23 rfl (lv_at hl 0 rfl) ?_
    refine t_getk (ci := 12) (C := RX12) (T := TX12) (N := 38) hx hb hts iX12 hown hw rfl 11 (by decide) (hts _ tw_1136) (fun _ h9 => h9) dX12_rule_24 f_a0_X12_11 ?_
    refine lv_iconst (v := 0) hx hb dX12_rule_27 (by decide) ?_
    refine t_iast hx hb hw k_v20 rfl rfl (by omega) (show v1.toInt < 6 by omega) (show 0 ≤ (0 : Int32).toInt by decide) (show (0 : Int32).toInt ≤ 12 by decide) dX12_rule_28 (fun w_2 H locs hw u => ?_)
    have hM := hM.up3 u k_v20 (by decide)
    have f_a0_X12_2 := u.1 _ _ _ _ f_a0_X12_2
    have f_a0_X12_11 := u.1 _ _ _ _ f_a0_X12_11
    have f_a0_X12_6 := u.1 _ _ _ _ f_a0_X12_6
    refine lv_aload_n hx hb dX12_rule_29 rfl (lv_at hl 0 rfl) ?_
    refine t_calli (va_runV (As := []) (rest := []) ⟨hx, hb, hml, hown, hts⟩ (t_X12_readsAll l dC dI tys κ B w_2 hw.2.2.2.2 a0 k_a0 H.size) (cwV 0 hts (gUV tw_1256 tw_1258 ts_3_1 tw_13 tw_1259) rfl rfl rfl (by decide +kernel) ⟨(Nat.le_of_ble_eq_true rfl), (Nat.le_of_ble_eq_true rfl)⟩) ⟨cPre.blind, t_recv hw (ci := 12) k_a0 rfl rfl, cPre.use hw.2.1 hw.1 hw.2.2.1 hE⟩ rfl rfl hl.1 rfl (lv_room (Nat.le_of_ble_eq_true rfl)) dX12_rule_30 ⟨(Nat.le_of_ble_eq_true rfl), (Nat.le_of_ble_eq_true rfl)⟩) hw hA (fun _ _ h => h.2.2.1) (fun v30 w_3 H locs hp hw => ?_)
    obtain ⟨l_v30, h_v30, _, hm⟩ := hp
    have hM := hM.trans hm (by decide) (by decide)
    have f_a0_X12_2 := hm.1 _ _ _ _ f_a0_X12_2 (by decide)
    have f_a0_X12_11 := hm.1 _ _ _ _ f_a0_X12_11 (by decide)
    have f_a0_X12_6 := hm.1 _ _ _ _ f_a0_X12_6 (by decide)
    refine lv_if_ne (tgt := 44) hx hb dX12_rule_33 (by decide) (fun c_33 => ?_) (fun c_33 => ?_)
    · simp only [fa_lt, fa_le, fa_eq, li_0] at c_33
      refine lv_aload_n hx hb dX12_rule_44 rfl (lv_at hl 0 rfl) ?_
      refine lv_dup hx hb dX12_rule_45 rfl ?_
      refine t_getk (ci := 12) (C := RX12) (T := TX12) (N := 38) hx hb hts iX12 hown hw rfl 2 (by decide) (hts _ tw_1127) (fun _ h9 => h9) dX12_rule_46 f_a0_X12_2 ?_
      refine lv_iconst (v := 1) hx hb dX12_rule_49 (by decide) ?_
      refine lv_iadd hx hb dX12_rule_50 ?_
      refine lv_topi (fun v50 e_v50 => ?_)
      have e_v50 : v50.toInt = v1.toInt + 1 := ad_i e_v50 rfl li_1 (by omega) (by omega)
      refine t_put (ci := 12) (C := RX12) (T := TX12) (N := 38) (v := .int v50) hx hb hts iX12 tyX12 tyX12_ok nmX12 hown hw k_a0 rfl rfl rfl 2 (by decide) (hts _ tw_1127) (fun _ h9 => h9) rfl (tyX12_ok 2 (by decide)) rfl rfl (okV.int rfl (by omega) (by omega)) dX12_rule_51 (fun w_4 H locs hw u => ?_)
      have hM := hM.up1 u (by decide)
      have f_a0_X12_2 := u.2.2
      have f_a0_X12_11 := u.1 _ _ _ _ f_a0_X12_11 (Or.inr (Or.inr (by decide)))
      have f_a0_X12_6 := u.1 _ _ _ _ f_a0_X12_6 (Or.inr (Or.inr (by decide)))
      refine lv_aload_n hx hb dX12_rule_54 rfl (lv_at hl 0 rfl) ?_
      refine t_getk (ci := 12) (C := RX12) (T := TX12) (N := 38) hx hb hts iX12 hown hw rfl 2 (by decide) (hts _ tw_1127) (fun _ h9 => h9) dX12_rule_55 f_a0_X12_2 ?_
      refine lv_iconst (v := 1) hx hb dX12_rule_58 (by decide) ?_
      refine lv_isub hx hb dX12_rule_59 ?_
      refine lv_topi (fun v59 e_v59 => ?_)
      have e_v59 : v59.toInt = v50.toInt - 1 := sb_i e_v59 rfl li_1 (by omega) (by omega)
      rw [hQ]
      refine W.widen (k := 0) (n := 0) (Nat.le_refl _) (Nat.le_refl _) ?_
      exact W.iret (v := v59) hx hb hr (fun t ht hW => ⟨⟨v59, w_4, rfl, ⟨hw.2.2.2.2, hM⟩, by rw [ht]; exact hw.2.1, va_K.moved hW.alike hw.1, hw.2.2.1⟩, hw.2.2.2.1.F ht⟩) hw.2.2.2.1.2.2 dX12_rule_60
    · simp only [fa_lt, fa_le, fa_eq, li_0] at c_33
      refine lv_bipush (v := (-2)) hx hb dX12_rule_36 (by decide) ?_
      refine lv_aload_n hx hb dX12_rule_38 rfl (lv_at hl 0 rfl) ?_
      refine t_geti (ci := 12) (C := RX12) (T := TX12) (N := 38) hx hb hts iX12 hown hw k_a0 rfl rfl rfl 9 (by decide) (hts _ tw_1134) (fun _ h9 => h9) dX12_rule_39 rfl (fun v39 l_v39 h_v39 f_a0_X12_9 => ?_)
      have l_v39 : (-2147483648) ≤ v39.toInt := l_v39
      have h_v39 : v39.toInt ≤ 2147483647 := h_v39
      refine lv_isub hx hb dX12_rule_42 ?_
      refine lv_topi (fun v42 e_v42 => ?_)
      have l_v42 := i32_lo v42
      have h_v42 := i32_hi v42
      rw [hQ]
      refine W.widen (k := 0) (n := 0) (Nat.le_refl _) (Nat.le_refl _) ?_
      exact W.iret (v := v42) hx hb hr (fun t ht hW => ⟨⟨v42, w_3, rfl, ⟨hw.2.2.2.2, hM⟩, by rw [ht]; exact hw.2.1, va_K.moved hW.alike hw.1, hw.2.2.1⟩, hw.2.2.2.1.F ht⟩) hw.2.2.2.1.2.2 dX12_rule_43
  · simp only [fa_lt, fa_le, fa_eq, li_6] at c_6
    refine lv_iconst (v := (-1)) hx hb dX12_rule_9 (by decide) ?_
    rw [hQ]
    refine W.widen (k := 0) (n := 0) (Nat.le_refl _) (Nat.le_refl _) ?_
    exact W.iret (v := (-1)) hx hb hr (fun t ht hW => ⟨⟨(-1), ws, rfl, ⟨hw.2.2.2.2, hM⟩, by rw [ht]; exact hw.2.1, va_K.moved hW.alike hw.1, hw.2.2.1⟩, hw.2.2.2.1.F ht⟩) hw.2.2.2.1.2.2 dX12_rule_10
set_option maxHeartbeats 4000000 in
set_option maxRecDepth 100000 in
theorem t_X12_ruled (l : Launch) (dC : Nat → ClassId) (dI : Nat → Nat → Nat) (tys : List (ClassId × FieldType)) (κ : tK) (B : Nat) (ws : va_W) (hT : Ty κ tys B ws) (a0 : Nat) (k_a0 : κ a0 = some 12) (a1 : Int32) (f0 : Nat) (k_f0 : κ f0 = some 63) (f_a0_X12_20 : fld ws a0 12 20 (.ref f0)) (f1 : Int32) (l_f1 : 0 ≤ f1.toInt) (h_f1 : f1.toInt ≤ 999) (f_f0_M_said_10 : elt ws f0 (10 : Int32).toInt.toNat f1) (sz : Nat) : Met l yX12_ruled (ws_u yX12_ruled cX12_ruled 5 (some .int)) ({ frames := 21, cells := 0, slots := 0, locals := 610 }) (va_Pc [.ref a0, .int a1] (cPre (dC, dI) tys ws sz)) (va_Qi (fun (r : Int32) (w : va_W) => Ty κ tys B w ∧ Sm [(12, 18), (12, 21), (12, 24)] [61, 62, 63, 64, 66, 70, 71] κ ws w ∧ (∃ (xd : Int32), 0 ≤ xd.toInt ∧ xd.toInt ≤ 999 ∧ elt w f0 (10 : Int32).toInt.toNat xd)) (fun w t => cPost (dC, dI) tys w (va_A ws sz) t) (va_A ws sz)) 0 0 (va_A ws sz) := by
  refine Met.ofW (cc := cX12_ruled) (maxL := 5) (ret := (some .int)) (by decide) rfl ?_
  intro p e s m args below meth c s₁ B0 hml hv
  obtain ⟨rfl, hsz, hP, hK, hD0, hE⟩ := hv
  have hx := B0.exec
  have hb := B0.bytes
  have hr := B0.returns
  have hts0 := atoms_spec (ws := ws_u yX12_ruled cX12_ruled 5 (some .int)) B0.pre
  have hts : ∀ w ∈ gT, w.before _ s = true := fun w h => hts0 w (List.mem_cons_of_mem _ h)
  have hown : s.vm.findClass RX12 = some m.cls := findClass_of_methodNamed B0.named
  have hlocks := B0.notSynchronized
  subst hsz
  have hD := hD0.self (sz := s.heap.size)
  generalize hAe : va_A ws s.heap.size = A at hD ⊢
  have hA : ∀ q : Nat, s.heap.size ≤ q → A q := fun q h => by rw [← hAe]; exact Or.inr h
  have hw : tW (dC, dI) tys κ B A s ws s.heap [] := ⟨hK, hP, hD, va_S.rf, hT⟩
  have hM : Sm [(12, 18), (12, 21), (12, 24)] [61, 62, 63, 64, 66, 70, 71] κ ws ws := Sm.rf
  clear hP hK hD hD0 hts0
  have l_a1 := i32_lo a1
  have h_a1 := i32_hi a1
  have hl := lv_entry ([.ref a0, .int a1]) (n := 5) (Nat.le_of_ble_eq_true rfl)
  rw [lg_entry_eq]
  generalize (lg_sl ([.ref a0, .int a1]) ++ List.replicate (5 - (lg_sl ([.ref a0, .int a1])).length) Slot.unset).toArray = ls at hl ⊢
  have hl : lv_has ls 5 [(0, .ref a0), (1, .int a1)] := hl
  refine t_start (fun QQ hQ => ?_)
  refine lv_aload_n hx hb dX12_ruled_0 rfl (lv_at hl 0 rfl) ?_
  refine t_calli (va_runV (As := []) (rest := []) ⟨hx, hb, hml, hown, hts⟩ (t_X12_isChoir l dC dI tys κ B ws hw.2.2.2.2 a0 k_a0 s.heap.size) (cwV 0 hts (gUV tw_1489 tw_1491 ts_5_12 tw_13 tw_1492) rfl rfl rfl (by decide +kernel) ⟨(Nat.le_of_ble_eq_true rfl), (Nat.le_of_ble_eq_true rfl)⟩) ⟨cPre.blind, t_recv hw (ci := 12) k_a0 rfl rfl, cPre.use hw.2.1 hw.1 hw.2.2.1 hE⟩ rfl rfl hl.1 rfl (lv_room (Nat.le_of_ble_eq_true rfl)) dX12_ruled_1 ⟨(Nat.le_of_ble_eq_true rfl), (Nat.le_of_ble_eq_true rfl)⟩) hw hA (fun _ _ h => h.2.2.1) (fun v1 w_1 H locs hp hw => ?_)
  obtain ⟨l_v1, h_v1, _, hm⟩ := hp
  have hM := hM.trans hm (by decide) (by decide)
  have f_a0_X12_20 := hm.1 _ _ _ _ f_a0_X12_20 (by decide)
  have f_f0_M_said_10 := hm.elt k_f0 (by decide) f_f0_M_said_10
  refine lv_if_eq (tgt := 17) hx hb dX12_ruled_4 (by decide) (fun c_4 => ?_) (fun c_4 => ?_)
  · simp only [fa_lt, fa_le, fa_eq, li_0] at c_4
    refine lv_bipush (v := (-3)) hx hb dX12_ruled_17 (by decide) ?_
    rw [hQ]
    refine W.widen (k := 0) (n := 0) (Nat.le_refl _) (Nat.le_refl _) ?_
    exact W.iret (v := (-3)) hx hb hr (fun t ht hW => ⟨⟨(-3), w_1, rfl, ⟨hw.2.2.2.2, hM, ⟨f1, (by omega), (by omega), f_f0_M_said_10⟩⟩, by rw [ht]; exact hw.2.1, va_K.moved hW.alike hw.1, hw.2.2.1⟩, hw.2.2.2.1.F ht⟩) hw.2.2.2.1.2.2 dX12_ruled_19
  · simp only [fa_lt, fa_le, fa_eq, li_0] at c_4
    refine lv_iload_n hx hb dX12_ruled_7 rfl (lv_at hl 1 rfl) ?_
    refine lv_i2l hx hb dX12_ruled_8 rfl ?_
    refine lv_topl (fun v8 e_v8 => ?_)
    have t_v8 : v8.toInt = a1.toInt := by rw [e_v8, Int32.toInt_toInt64]
    refine lv_lconst (v := 0) hx hb dX12_ruled_9 (by decide) ?_
    obtain ⟨v9, e_v9⟩ : ∃ y : Int64, y = 0 := ⟨_, rfl⟩
    refine W.eq (g2 := F0 m 10 ls [.long v9, .long v8]) (by rw [e_v9]) ?_
    have t_v9 : v9.toInt = 0 := by rw [e_v9]; decide
    refine lv_lconst (v := 1) hx hb dX12_ruled_10 (by decide) ?_
    obtain ⟨v10, e_v10⟩ : ∃ y : Int64, y = 1 := ⟨_, rfl⟩
    refine W.eq (g2 := F0 m 11 ls [.long v10, .long v9, .long v8]) (by rw [e_v10]) ?_
    have t_v10 : v10.toInt = 1 := by rw [e_v10]; decide
    refine t_calli (va_runS (As := [.long v8, .long v9, .long v10]) (rest := []) ⟨hx, hb, hml, hown, hts⟩ (t_X12_in l dC dI tys κ B w_1 hw.2.2.2.2 v8 v9 v10 H.size) (va_cwS 3 hts (gUS tw_1316 tw_1317 tw_13 tw_1318) rfl rfl rfl (by decide +kernel) ⟨(Nat.le_of_ble_eq_true rfl), (Nat.le_of_ble_eq_true rfl)⟩) ⟨cPre.blind, cPre.use hw.2.1 hw.1 hw.2.2.1 hE⟩ rfl rfl hl.1 rfl (lv_room (Nat.le_of_ble_eq_true rfl)) dX12_ruled_11 ⟨(Nat.le_of_ble_eq_true rfl), (Nat.le_of_ble_eq_true rfl)⟩) hw hA (fun _ _ h => h.2.2.1) (fun v11 w_2 H locs hp hw => ?_)
    obtain ⟨l_v11, h_v11, _, hm, x_v11_0⟩ := hp
    have hM := hM.trans hm (by decide) (by decide)
    have f_a0_X12_20 := hm.1 _ _ _ _ f_a0_X12_20 (by decide)
    have f_f0_M_said_10 := hm.elt k_f0 (by decide) f_f0_M_said_10
    refine lv_if_ne (tgt := 20) hx hb dX12_ruled_14 (by decide) (fun c_14 => ?_) (fun c_14 => ?_)
    · simp only [fa_lt, fa_le, fa_eq, li_0] at c_14
      refine lv_aload_n hx hb dX12_ruled_20 rfl (lv_at hl 0 rfl) ?_
      refine t_callv (va_runV (As := []) (rest := []) ⟨hx, hb, hml, hown, hts⟩ (t_X12_fillsFits l dC dI tys κ B w_2 hw.2.2.2.2 a0 k_a0 f0 k_f0 f_a0_X12_20 f1 (by omega) (by omega) f_f0_M_said_10 H.size) (cwV 0 hts (gUV tw_1708 tw_1710 ts_7_15 tw_13 tw_1711) rfl rfl rfl (by decide +kernel) ⟨(Nat.le_of_ble_eq_true rfl), (Nat.le_of_ble_eq_true rfl)⟩) ⟨cPre.blind, t_recv hw (ci := 12) k_a0 rfl rfl, cPre.use hw.2.1 hw.1 hw.2.2.1 hE⟩ rfl rfl hl.1 rfl (lv_room (Nat.le_of_ble_eq_true rfl)) dX12_ruled_21 ⟨(Nat.le_of_ble_eq_true rfl), (Nat.le_of_ble_eq_true rfl)⟩) hw hA (fun _ h => h.1) (fun w_3 H locs hp hw => ?_)
      obtain ⟨_, hm, ⟨v21d, l_v21d, h_v21d, f_f0_M_said_10⟩⟩ := hp
      have hM := hM.trans hm (by decide) (by decide)
      have f_a0_X12_20 := hm.1 _ _ _ _ f_a0_X12_20 (by decide)
      refine lv_iconst (v := 0) hx hb dX12_ruled_24 (by decide) ?_
      refine lv_istore_n (lv' := [(2, .int 0), (0, .ref a0), (1, .int a1)]) hx hb dX12_ruled_25 rfl hl (by decide) rfl (fun ls hl => ?_)
      refine lv_bipush (v := (-2)) hx hb dX12_ruled_26 (by decide) ?_
      refine lv_istore_n (lv' := [(3, .int (-2)), (2, .int 0), (0, .ref a0), (1, .int a1)]) hx hb dX12_ruled_28 rfl hl (by decide) rfl (fun ls hl => ?_)
      refine lv_aload_n hx hb dX12_ruled_29 rfl (lv_at hl 2 rfl) ?_
      refine t_geti (ci := 12) (C := RX12) (T := TX12) (N := 38) hx hb hts iX12 hown hw k_a0 rfl rfl rfl 2 (by decide) (hts _ tw_1127) (fun _ h9 => h9) dX12_ruled_30 rfl (fun v30 l_v30 h_v30 f_a0_X12_2 => ?_)
      have l_v30 : 0 ≤ v30.toInt := l_v30
      have h_v30 : v30.toInt ≤ 6 := h_v30
      refine lv_istore (lv' := [(4, .int v30), (3, .int (-2)), (2, .int 0), (0, .ref a0), (1, .int a1)]) hx hb dX12_ruled_33 hl (by decide) rfl (fun ls hl => ?_)
      have J35 : ∀ (n : Nat) (H : Heap) (locs : List Loc) (ls : Array Slot), (∃ (w35 : va_W) (p35_l2 : Int32) (p35_l3 : Int32) (p35_l4 : Int32), tW (dC, dI) tys κ B A s w35 H locs ∧ Sm [(12, 18), (12, 21), (12, 24)] [61, 62, 63, 64, 66, 70, 71] κ ws w35 ∧ (-2147483648) ≤ p35_l2.toInt ∧ p35_l2.toInt ≤ 2147483647 ∧ (-2) ≤ p35_l3.toInt ∧ p35_l3.toInt ≤ 5 ∧ (-1) ≤ p35_l4.toInt ∧ p35_l4.toInt ≤ 6 ∧ fld w35 a0 12 2 (.int v30) ∧ fld w35 a0 12 20 (.ref f0) ∧ elt w35 f0 (10 : Int32).toInt.toNat v21d ∧ lv_has ls 5 [(0, .ref a0), (1, .int a1), (2, .int p35_l2), (3, .int p35_l3), (4, .int p35_l4)] ∧ (p35_l4.toInt - (-1)).toNat = n) → W p l e (headSpec (ws_u yX12_ruled cX12_ruled 5 (some .int)) ({ frames := 21, cells := 0, slots := 0, locals := 610 })).room s m ([.ref a0, .int a1] : List Value).toArray below meth c H locs 0 0 QQ (F0 m 35 ls []) := by
        refine loopT _ ?_
        intro n_35 H locs ls hI ih_35
        obtain ⟨w35, p35_l2, p35_l3, p35_l4, hw, hM, l_p35_l2, h_p35_l2, l_p35_l3, h_p35_l3, l_p35_l4, h_p35_l4, f_a0_X12_2, f_a0_X12_20, f_f0_M_said_10, hl, hn_35⟩ := hI
        refine lv_iload hx hb dX12_ruled_35 (lv_at hl 4 rfl) ?_
        refine lv_if_lt (tgt := 67) hx hb dX12_ruled_37 (by decide) (fun c_37 => ?_) (fun c_37 => ?_)
        · simp only [fa_lt, fa_le, fa_eq, li_0] at c_37
          refine lv_iload_n hx hb dX12_ruled_67 rfl (lv_at hl 1 rfl) ?_
          refine lv_if_ne (tgt := 75) hx hb dX12_ruled_68 (by decide) (fun c_68 => ?_) (fun c_68 => ?_)
          · simp only [fa_lt, fa_le, fa_eq, li_0] at c_68
            refine lv_iload_n hx hb dX12_ruled_75 rfl (lv_at hl 3 rfl) ?_
            rw [hQ]
            refine W.widen (k := 0) (n := 0) (Nat.le_refl _) (Nat.le_refl _) ?_
            exact W.iret (v := p35_l3) hx hb hr (fun t ht hW => ⟨⟨p35_l3, w35, rfl, ⟨hw.2.2.2.2, hM, ⟨v21d, (by omega), (by omega), f_f0_M_said_10⟩⟩, by rw [ht]; exact hw.2.1, va_K.moved hW.alike hw.1, hw.2.2.1⟩, hw.2.2.2.1.F ht⟩) hw.2.2.2.1.2.2 dX12_ruled_76
          · simp only [fa_lt, fa_le, fa_eq, li_0] at c_68
            refine lv_iload_n hx hb dX12_ruled_71 rfl (lv_at hl 2 rfl) ?_
            refine lv_goto (tgt := 76) hx hb dX12_ruled_72 (by decide) ?_
            rw [hQ]
            refine W.widen (k := 0) (n := 0) (Nat.le_refl _) (Nat.le_refl _) ?_
            exact W.iret (v := p35_l2) hx hb hr (fun t ht hW => ⟨⟨p35_l2, w35, rfl, ⟨hw.2.2.2.2, hM, ⟨v21d, (by omega), (by omega), f_f0_M_said_10⟩⟩, by rw [ht]; exact hw.2.1, va_K.moved hW.alike hw.1, hw.2.2.1⟩, hw.2.2.2.1.F ht⟩) hw.2.2.2.1.2.2 dX12_ruled_76
        · simp only [fa_lt, fa_le, fa_eq, li_0] at c_37
          refine lv_aload_n hx hb dX12_ruled_40 rfl (lv_at hl 0 rfl) ?_
          refine t_getr (k1 := 70) (ci := 12) (C := RX12) (T := TX12) (N := 38) hx hb hts iX12 hown hw k_a0 rfl rfl rfl 31 (by decide) (hts _ tw_1156) (fun _ h9 => h9) dX12_ruled_41 rfl (fun v41 k_v41 f_a0_X12_31 => ?_)
          refine lv_iload hx hb dX12_ruled_44 (lv_at hl 4 rfl) ?_
          refine t_zald hx hb hw k_v41 rfl rfl (by omega) (show p35_l4.toInt < 7 by omega) dX12_ruled_46 (fun v46 r_v46 s_v46 q_v46 => ?_)
          have l_v46 := i32_lo v46
          have h_v46 := i32_hi v46
          have J61 : ∀ (H : Heap) (locs : List Loc) (ls : Array Slot) (w61 : va_W) (p61_l2 : Int32) (p61_l3 : Int32), tW (dC, dI) tys κ B A s w61 H locs → Sm [(12, 18), (12, 21), (12, 24)] [61, 62, 63, 64, 66, 70, 71] κ ws w61 → (-2147483648) ≤ p61_l2.toInt → p61_l2.toInt ≤ 2147483647 → (-2) ≤ p61_l3.toInt → p61_l3.toInt ≤ 5 → fld w61 a0 12 2 (.int v30) → fld w61 a0 12 20 (.ref f0) → fld w61 a0 12 31 (.ref v41) → elt w61 f0 (10 : Int32).toInt.toNat v21d → lv_has ls 5 [(0, .ref a0), (1, .int a1), (2, .int p61_l2), (3, .int p61_l3), (4, .int p35_l4)] → W p l e (headSpec (ws_u yX12_ruled cX12_ruled 5 (some .int)) ({ frames := 21, cells := 0, slots := 0, locals := 610 })).room s m ([.ref a0, .int a1] : List Value).toArray below meth c H locs 0 0 QQ (F0 m 61 ls []) := by
            intro H locs ls w61 p61_l2 p61_l3 hw hM l_p61_l2 h_p61_l2 l_p61_l3 h_p61_l3 f_a0_X12_2 f_a0_X12_20 f_a0_X12_31 f_f0_M_said_10 hl
            obtain ⟨v61, e_v61⟩ : ∃ y : Int32, y = p35_l4 + (-1) := ⟨_, rfl⟩
            refine lv_iinc (v := v61) (lv' := [(4, .int v61), (0, .ref a0), (1, .int a1), (2, .int p61_l2), (3, .int p61_l3)]) hx hb dX12_ruled_61 hl (k := 4) rfl e_v61.symm (by decide) rfl (fun ls hl => ?_)
            have e_v61 : v61.toInt = p35_l4.toInt + (-1) := ad_i e_v61 rfl li_m1 (by omega) (by omega)
            refine lv_goto (tgt := 35) hx hb dX12_ruled_64 (by decide) ?_
            exact ih_35 _ _ _ _ (by omega) ⟨w61, p61_l2, p61_l3, v61, hw, hM, (by omega), (by omega), (by omega), (by omega), (by omega), (by omega), f_a0_X12_2, f_a0_X12_20, f_f0_M_said_10, (lv_sub hl [1, 2, 3, 4, 0] rfl), rfl⟩
          refine lv_if_ne (tgt := 53) hx hb dX12_ruled_47 (by decide) (fun c_47 => ?_) (fun c_47 => ?_)
          · simp only [fa_lt, fa_le, fa_eq, li_0] at c_47
            refine lv_iload hx hb dX12_ruled_53 (lv_at hl 4 rfl) ?_
            refine lv_iconst (v := 1) hx hb dX12_ruled_55 (by decide) ?_
            refine lv_isub hx hb dX12_ruled_56 ?_
            refine lv_topi (fun v56 e_v56 => ?_)
            have e_v56 : v56.toInt = p35_l4.toInt - 1 := sb_i e_v56 rfl li_1 (by omega) (by omega)
            refine lv_istore_n (lv' := [(3, .int v56), (0, .ref a0), (1, .int a1), (2, .int p35_l2), (4, .int p35_l4)]) hx hb dX12_ruled_57 rfl hl (by decide) rfl (fun ls hl => ?_)
            obtain ⟨v58, e_v58⟩ : ∃ y : Int32, y = p35_l2 + 1 := ⟨_, rfl⟩
            refine lv_iinc (v := v58) (lv' := [(2, .int v58), (3, .int v56), (0, .ref a0), (1, .int a1), (4, .int p35_l4)]) hx hb dX12_ruled_58 hl (k := 3) rfl e_v58.symm (by decide) rfl (fun ls hl => ?_)
            have l_v58 := i32_lo v58
            have h_v58 := i32_hi v58
            exact J61 _ _ _ w35 v58 v56 hw hM (by omega) (by omega) (by omega) (by omega) f_a0_X12_2 f_a0_X12_20 f_a0_X12_31 f_f0_M_said_10 (lv_sub hl [2, 3, 0, 1, 4] rfl)
          · simp only [fa_lt, fa_le, fa_eq, li_0] at c_47
            refine lv_goto (tgt := 61) hx hb dX12_ruled_50 (by decide) ?_
            exact J61 _ _ _ w35 p35_l2 p35_l3 hw hM (by omega) (by omega) (by omega) (by omega) f_a0_X12_2 f_a0_X12_20 f_a0_X12_31 f_f0_M_said_10 (lv_sub hl [0, 1, 2, 3, 4] rfl)
      exact J35 _ _ _ _ ⟨w_3, 0, (-2), v30, hw, hM, (by decide), (by decide), (by decide), (by decide), (by omega), (by omega), f_a0_X12_2, f_a0_X12_20, f_f0_M_said_10, (lv_sub hl [3, 4, 2, 1, 0] rfl), rfl⟩
    · simp only [fa_lt, fa_le, fa_eq, li_0] at c_14
      refine lv_bipush (v := (-3)) hx hb dX12_ruled_17 (by decide) ?_
      rw [hQ]
      refine W.widen (k := 0) (n := 0) (Nat.le_refl _) (Nat.le_refl _) ?_
      exact W.iret (v := (-3)) hx hb hr (fun t ht hW => ⟨⟨(-3), w_2, rfl, ⟨hw.2.2.2.2, hM, ⟨f1, (by omega), (by omega), f_f0_M_said_10⟩⟩, by rw [ht]; exact hw.2.1, va_K.moved hW.alike hw.1, hw.2.2.1⟩, hw.2.2.2.1.F ht⟩) hw.2.2.2.1.2.2 dX12_ruled_19
set_option maxHeartbeats 4000000 in
set_option maxRecDepth 100000 in
theorem t_X12_seed (l : Launch) (dC : Nat → ClassId) (dI : Nat → Nat → Nat) (tys : List (ClassId × FieldType)) (κ : tK) (B : Nat) (ws : va_W) (hT : Ty κ tys B ws) (a0 : Nat) (k_a0 : κ a0 = some 12) (a1 : Int32) (sz : Nat) : Met l yX12_seed (ws_u yX12_seed cX12_seed 3 (some .int)) ({ frames := 0, cells := 0, slots := 0, locals := 0 }) (va_Pc [.ref a0, .int a1] (cPre (dC, dI) tys ws sz)) (va_Qi (fun (r : Int32) (w : va_W) => Ty κ tys B w ∧ Sm [(12, 22)] [] κ ws w) (fun w t => cPost (dC, dI) tys w (va_A ws sz) t) (va_A ws sz)) 0 0 (va_A ws sz) := by
  refine Met.ofW (cc := cX12_seed) (maxL := 3) (ret := (some .int)) (by decide) rfl ?_
  intro p e s m args below meth c s₁ B0 hml hv
  obtain ⟨rfl, hsz, hP, hK, hD0, hE⟩ := hv
  have hx := B0.exec
  have hb := B0.bytes
  have hr := B0.returns
  have hts0 := atoms_spec (ws := ws_u yX12_seed cX12_seed 3 (some .int)) B0.pre
  have hts : ∀ w ∈ gT, w.before _ s = true := fun w h => hts0 w (List.mem_cons_of_mem _ h)
  have hown : s.vm.findClass RX12 = some m.cls := findClass_of_methodNamed B0.named
  have hlocks := B0.notSynchronized
  subst hsz
  have hD := hD0.self (sz := s.heap.size)
  generalize hAe : va_A ws s.heap.size = A at hD ⊢
  have hA : ∀ q : Nat, s.heap.size ≤ q → A q := fun q h => by rw [← hAe]; exact Or.inr h
  have hw : tW (dC, dI) tys κ B A s ws s.heap [] := ⟨hK, hP, hD, va_S.rf, hT⟩
  have hM : Sm [(12, 22)] [] κ ws ws := Sm.rf
  clear hP hK hD hD0 hts0
  have l_a1 := i32_lo a1
  have h_a1 := i32_hi a1
  have hl := lv_entry ([.ref a0, .int a1]) (n := 3) (Nat.le_of_ble_eq_true rfl)
  rw [lg_entry_eq]
  generalize (lg_sl ([.ref a0, .int a1]) ++ List.replicate (3 - (lg_sl ([.ref a0, .int a1])).length) Slot.unset).toArray = ls at hl ⊢
  have hl : lv_has ls 3 [(0, .ref a0), (1, .int a1)] := hl
  refine t_start (fun QQ hQ => ?_)
  refine lv_iload_n hx hb dX12_seed_0 rfl (lv_at hl 1 rfl) ?_
  refine lv_if_ge (tgt := 6) hx hb dX12_seed_1 (by decide) (fun c_1 => ?_) (fun c_1 => ?_)
  · simp only [fa_lt, fa_le, fa_eq, li_0] at c_1
    refine lv_aload_n hx hb dX12_seed_6 rfl (lv_at hl 0 rfl) ?_
    refine t_geti (ci := 12) (C := RX12) (T := TX12) (N := 38) hx hb hts iX12 hown hw k_a0 rfl rfl rfl 22 (by decide) (hts _ tw_1147) (fun _ h9 => h9) dX12_seed_7 rfl (fun v7 l_v7 h_v7 f_a0_X12_22 => ?_)
    have l_v7 : (-2147483648) ≤ v7.toInt := l_v7
    have h_v7 : v7.toInt ≤ 2147483647 := h_v7
    refine lv_istore_n (lv' := [(2, .int v7), (0, .ref a0), (1, .int a1)]) hx hb dX12_seed_10 rfl hl (by decide) rfl (fun ls hl => ?_)
    refine lv_aload_n hx hb dX12_seed_11 rfl (lv_at hl 1 rfl) ?_
    refine lv_iload_n hx hb dX12_seed_12 rfl (lv_at hl 2 rfl) ?_
    refine t_put (ci := 12) (C := RX12) (T := TX12) (N := 38) (v := .int a1) hx hb hts iX12 tyX12 tyX12_ok nmX12 hown hw k_a0 rfl rfl rfl 22 (by decide) (hts _ tw_1147) (fun _ h9 => h9) rfl (tyX12_ok 22 (by decide)) rfl rfl (okV.int rfl (by omega) (by omega)) dX12_seed_13 (fun w_1 H locs hw u => ?_)
    have hM := hM.up1 u (by decide)
    have f_a0_X12_22 := u.2.2
    refine lv_iload_n hx hb dX12_seed_16 rfl (lv_at hl 0 rfl) ?_
    rw [hQ]
    refine W.widen (k := 0) (n := 0) (Nat.le_refl _) (Nat.le_refl _) ?_
    exact W.iret (v := v7) hx hb hr (fun t ht hW => ⟨⟨v7, w_1, rfl, ⟨hw.2.2.2.2, hM⟩, by rw [ht]; exact hw.2.1, va_K.moved hW.alike hw.1, hw.2.2.1⟩, hw.2.2.2.1.F ht⟩) hw.2.2.2.1.2.2 dX12_seed_17
  · simp only [fa_lt, fa_le, fa_eq, li_0] at c_1
    refine lv_iconst (v := (-1)) hx hb dX12_seed_4 (by decide) ?_
    rw [hQ]
    refine W.widen (k := 0) (n := 0) (Nat.le_refl _) (Nat.le_refl _) ?_
    exact W.iret (v := (-1)) hx hb hr (fun t ht hW => ⟨⟨(-1), ws, rfl, ⟨hw.2.2.2.2, hM⟩, by rw [ht]; exact hw.2.1, va_K.moved hW.alike hw.1, hw.2.2.1⟩, hw.2.2.2.1.F ht⟩) hw.2.2.2.1.2.2 dX12_seed_5
set_option maxHeartbeats 4000000 in
set_option maxRecDepth 100000 in
theorem t_X12_undo (l : Launch) (dC : Nat → ClassId) (dI : Nat → Nat → Nat) (tys : List (ClassId × FieldType)) (κ : tK) (B : Nat) (ws : va_W) (hT : Ty κ tys B ws) (a0 : Nat) (k_a0 : κ a0 = some 12) (f0 : Nat) (k_f0 : κ f0 = some 63) (f_a0_X12_20 : fld ws a0 12 20 (.ref f0)) (f1 : Int32) (l_f1 : 0 ≤ f1.toInt) (h_f1 : f1.toInt ≤ 999) (f_f0_M_said_10 : elt ws f0 (10 : Int32).toInt.toNat f1) (sz : Nat) : Met l yX12_undo (ws_u yX12_undo cX12_undo 2 (some .int)) ({ frames := 0, cells := 0, slots := 0, locals := 0 }) (va_Pc [.ref a0] (cPre (dC, dI) tys ws sz)) (va_Qi (fun (r : Int32) (w : va_W) => (-1) ≤ r.toInt ∧ r.toInt ≤ 19 ∧ Ty κ tys B w ∧ Sm [(12, 26)] [63] κ ws w ∧ (∃ (xd : Int32), 0 ≤ xd.toInt ∧ xd.toInt ≤ 999 ∧ elt w f0 (10 : Int32).toInt.toNat xd)) (fun w t => cPost (dC, dI) tys w (va_A ws sz) t) (va_A ws sz)) 0 0 (va_A ws sz) := by
  refine Met.ofW (cc := cX12_undo) (maxL := 2) (ret := (some .int)) (by decide) rfl ?_
  intro p e s m args below meth c s₁ B0 hml hv
  obtain ⟨rfl, hsz, hP, hK, hD0, hE⟩ := hv
  have hx := B0.exec
  have hb := B0.bytes
  have hr := B0.returns
  have hts0 := atoms_spec (ws := ws_u yX12_undo cX12_undo 2 (some .int)) B0.pre
  have hts : ∀ w ∈ gT, w.before _ s = true := fun w h => hts0 w (List.mem_cons_of_mem _ h)
  have hown : s.vm.findClass RX12 = some m.cls := findClass_of_methodNamed B0.named
  have hlocks := B0.notSynchronized
  subst hsz
  have hD := hD0.self (sz := s.heap.size)
  generalize hAe : va_A ws s.heap.size = A at hD ⊢
  have hA : ∀ q : Nat, s.heap.size ≤ q → A q := fun q h => by rw [← hAe]; exact Or.inr h
  have hw : tW (dC, dI) tys κ B A s ws s.heap [] := ⟨hK, hP, hD, va_S.rf, hT⟩
  have hM : Sm [(12, 26)] [63] κ ws ws := Sm.rf
  clear hP hK hD hD0 hts0
  have hl := lv_entry ([.ref a0]) (n := 2) (Nat.le_of_ble_eq_true rfl)
  rw [lg_entry_eq]
  generalize (lg_sl ([.ref a0]) ++ List.replicate (2 - (lg_sl ([.ref a0])).length) Slot.unset).toArray = ls at hl ⊢
  have hl : lv_has ls 2 [(0, .ref a0)] := hl
  refine t_start (fun QQ hQ => ?_)
  refine lv_aload_n hx hb dX12_undo_0 rfl (lv_at hl 0 rfl) ?_
  refine t_geti (ci := 12) (C := RX12) (T := TX12) (N := 38) hx hb hts iX12 hown hw k_a0 rfl rfl rfl 26 (by decide) (hts _ tw_1151) (fun _ h9 => h9) dX12_undo_1 rfl (fun v1 l_v1 h_v1 f_a0_X12_26 => ?_)
  have l_v1 : 0 ≤ v1.toInt := l_v1
  have h_v1 : v1.toInt ≤ 20 := h_v1
  refine lv_if_ne (tgt := 9) hx hb dX12_undo_4 (by decide) (fun c_4 => ?_) (fun c_4 => ?_)
  · simp only [fa_lt, fa_le, fa_eq, li_0] at c_4
    refine lv_aload_n hx hb dX12_undo_9 rfl (lv_at hl 0 rfl) ?_
    refine lv_dup hx hb dX12_undo_10 rfl ?_
    refine t_getk (ci := 12) (C := RX12) (T := TX12) (N := 38) hx hb hts iX12 hown hw rfl 26 (by decide) (hts _ tw_1151) (fun _ h9 => h9) dX12_undo_11 f_a0_X12_26 ?_
    refine lv_iconst (v := 1) hx hb dX12_undo_14 (by decide) ?_
    refine lv_isub hx hb dX12_undo_15 ?_
    refine lv_topi (fun v15 e_v15 => ?_)
    have e_v15 : v15.toInt = v1.toInt - 1 := sb_i e_v15 rfl li_1 (by omega) (by omega)
    refine t_put (ci := 12) (C := RX12) (T := TX12) (N := 38) (v := .int v15) hx hb hts iX12 tyX12 tyX12_ok nmX12 hown hw k_a0 rfl rfl rfl 26 (by decide) (hts _ tw_1151) (fun _ h9 => h9) rfl (tyX12_ok 26 (by decide)) rfl rfl (okV.int rfl (by omega) (by omega)) dX12_undo_16 (fun w_1 H locs hw u => ?_)
    have hM := hM.up1 u (by decide)
    have f_a0_X12_20 := u.1 _ _ _ _ f_a0_X12_20 (Or.inr (Or.inr (by decide)))
    have f_f0_M_said_10 := u.elt f_f0_M_said_10
    have f_a0_X12_26 := u.2.2
    refine lv_iconst (v := 0) hx hb dX12_undo_19 (by decide) ?_
    refine lv_istore_n (lv' := [(1, .int 0), (0, .ref a0)]) hx hb dX12_undo_20 rfl hl (by decide) rfl (fun ls hl => ?_)
    have J21 : ∀ (n : Nat) (H : Heap) (locs : List Loc) (ls : Array Slot), (∃ (w21 : va_W) (p21_l1 : Int32), tW (dC, dI) tys κ B A s w21 H locs ∧ Sm [(12, 26)] [63] κ ws w21 ∧ 0 ≤ p21_l1.toInt ∧ p21_l1.toInt ≤ 42 ∧ fld w21 a0 12 20 (.ref f0) ∧ fld w21 a0 12 26 (.int v15) ∧ dayOk w21 f0 p21_l1 0 ∧ lv_has ls 2 [(0, .ref a0), (1, .int p21_l1)] ∧ (42 - p21_l1.toInt).toNat = n) → W p l e (headSpec (ws_u yX12_undo cX12_undo 2 (some .int)) ({ frames := 0, cells := 0, slots := 0, locals := 0 })).room s m ([.ref a0] : List Value).toArray below meth c H locs 0 0 QQ (F0 m 21 ls []) := by
      refine loopT _ ?_
      intro n_21 H locs ls hI ih_21
      obtain ⟨w21, p21_l1, hw, hM, l_p21_l1, h_p21_l1, f_a0_X12_20, f_a0_X12_26, li_21_0, hl, hn_21⟩ := hI
      refine lv_iload_n hx hb dX12_undo_21 rfl (lv_at hl 1 rfl) ?_
      refine lv_bipush (v := 42) hx hb dX12_undo_22 (by decide) ?_
      refine lv_icmp_ge (tgt := 56) hx hb dX12_undo_24 (by decide) (fun c_24 => ?_) (fun c_24 => ?_)
      · simp only [fa_lt, fa_le, fa_eq, li_42] at c_24
        refine lv_aload_n hx hb dX12_undo_56 rfl (lv_at hl 0 rfl) ?_
        refine t_getk (ci := 12) (C := RX12) (T := TX12) (N := 38) hx hb hts iX12 hown hw rfl 26 (by decide) (hts _ tw_1151) (fun _ h9 => h9) dX12_undo_57 f_a0_X12_26 ?_
        rw [hQ]
        refine W.widen (k := 0) (n := 0) (Nat.le_refl _) (Nat.le_refl _) ?_
        exact W.iret (v := v15) hx hb hr (fun t ht hW => ⟨⟨v15, w21, rfl, ⟨(by omega), (by omega), hw.2.2.2.2, hM, (by rcases li_21_0 with hy | ⟨d, he, h1, h2⟩; exact absurd hy (by omega); exact ⟨d, h1, h2, he⟩)⟩, by rw [ht]; exact hw.2.1, va_K.moved hW.alike hw.1, hw.2.2.1⟩, hw.2.2.2.1.F ht⟩) hw.2.2.2.1.2.2 dX12_undo_60
      · simp only [fa_lt, fa_le, fa_eq, li_42] at c_24
        refine lv_aload_n hx hb dX12_undo_27 rfl (lv_at hl 0 rfl) ?_
        refine t_getk (ci := 12) (C := RX12) (T := TX12) (N := 38) hx hb hts iX12 hown hw rfl 20 (by decide) (hts _ tw_1145) (fun _ h9 => h9) dX12_undo_28 f_a0_X12_20 ?_
        refine lv_bipush (v := 10) hx hb dX12_undo_31 (by decide) ?_
        refine lv_iload_n hx hb dX12_undo_33 rfl (lv_at hl 1 rfl) ?_
        refine lv_iadd hx hb dX12_undo_34 ?_
        refine lv_topi (fun v34 e_v34 => ?_)
        have e_v34 : v34.toInt = 10 + p21_l1.toInt := ad_i e_v34 li_10 rfl (by omega) (by omega)
        refine lv_aload_n hx hb dX12_undo_35 rfl (lv_at hl 0 rfl) ?_
        refine t_getr (k1 := 65) (ci := 12) (C := RX12) (T := TX12) (N := 38) hx hb hts iX12 hown hw k_a0 rfl rfl rfl 25 (by decide) (hts _ tw_1150) (fun _ h9 => h9) dX12_undo_36 rfl (fun v36 k_v36 f_a0_X12_25 => ?_)
        refine lv_bipush (v := 42) hx hb dX12_undo_39 (by decide) ?_
        refine lv_aload_n hx hb dX12_undo_41 rfl (lv_at hl 0 rfl) ?_
        refine t_getk (ci := 12) (C := RX12) (T := TX12) (N := 38) hx hb hts iX12 hown hw rfl 26 (by decide) (hts _ tw_1151) (fun _ h9 => h9) dX12_undo_42 f_a0_X12_26 ?_
        refine lv_imul hx hb dX12_undo_45 ?_
        refine lv_topi (fun v45 e_v45 => ?_)
        have e_v45 : v45.toInt = 42 * v15.toInt := ml_i e_v45 li_42 rfl (by omega) (by omega)
        refine lv_iload_n hx hb dX12_undo_46 rfl (lv_at hl 1 rfl) ?_
        refine lv_iadd hx hb dX12_undo_47 ?_
        refine lv_topi (fun v47 e_v47 => ?_)
        have e_v47 : v47.toInt = v45.toInt + p21_l1.toInt := ad_i e_v47 rfl rfl (by omega) (by omega)
        refine t_iald hx hb hw k_v36 rfl rfl (by omega) (show v47.toInt < 840 by omega) dX12_undo_48 (fun v48 r_v48 s_v48 q_v48 => ?_)
        have l_v48 := i32_lo v48
        have h_v48 := i32_hi v48
        have hs_v34 : (aiv B 63 v34.toInt.toNat).1 ≤ v48.toInt ∧ v48.toInt ≤ (aiv B 63 v34.toInt.toNat).2 := by
          rw [aiv_was, show v47.toInt.toNat % 42 = p21_l1.toInt.toNat by omega] at r_v48 s_v48
          rw [aiv_said, show v34.toInt.toNat = 10 + p21_l1.toInt.toNat by omega]
          exact ivS_mono r_v48 s_v48
        refine t_iast hx hb hw k_f0 rfl rfl (by omega) (show v34.toInt < 306 by omega) hs_v34.1 hs_v34.2 dX12_undo_49 (fun w_2 H locs hw u => ?_)
        have hM := hM.up3 u k_f0 (by decide)
        have f_a0_X12_20 := u.1 _ _ _ _ f_a0_X12_20
        have f_a0_X12_26 := u.1 _ _ _ _ f_a0_X12_26
        have f_a0_X12_25 := u.1 _ _ _ _ f_a0_X12_25
        obtain ⟨v50, e_v50⟩ : ∃ y : Int32, y = p21_l1 + 1 := ⟨_, rfl⟩
        refine lv_iinc (v := v50) (lv' := [(1, .int v50), (0, .ref a0)]) hx hb dX12_undo_50 hl (k := 1) rfl e_v50.symm (by decide) rfl (fun ls hl => ?_)
        have e_v50 : v50.toInt = p21_l1.toInt + 1 := ad_i e_v50 rfl li_1 (by omega) (by omega)
        refine lv_goto (tgt := 21) hx hb dX12_undo_53 (by decide) ?_
        have hli : dayOk w_2 f0 v50 0 := by
          have e10 : (10 : Int32).toInt.toNat = 10 := by decide
          by_cases hz : p21_l1.toInt = 0
          · refine Or.inr ⟨v48, ?_, ?_, ?_⟩
            · rw [e10, show (10 : Nat) = v34.toInt.toNat by omega]; exact u.2.2.2
            · rw [aiv_was, show 10 + v47.toInt.toNat % 42 = 10 by omega, ivS_10] at r_v48; exact r_v48
            · rw [aiv_was, show 10 + v47.toInt.toNat % 42 = 10 by omega, ivS_10] at s_v48; exact s_v48
          · rcases li_21_0 with hy | ⟨d, he, h1, h2⟩
            · exact Or.inl (by omega)
            · exact Or.inr ⟨d, u.2.2.1 _ _ _ he (Or.inr (by rw [e10]; omega)), h1, h2⟩
        exact ih_21 _ _ _ _ (by omega) ⟨w_2, v50, hw, hM, (by omega), (by omega), f_a0_X12_20, f_a0_X12_26, hli, (lv_sub hl [1, 0] rfl), rfl⟩
    have hli : dayOk w_1 f0 (0 : Int32) 0 := by
      exact Or.inl (by decide)
    exact J21 _ _ _ _ ⟨w_1, 0, hw, hM, (by decide), (by decide), f_a0_X12_20, f_a0_X12_26, hli, (lv_sub hl [1, 0] rfl), rfl⟩
  · simp only [fa_lt, fa_le, fa_eq, li_0] at c_4
    refine lv_iconst (v := (-1)) hx hb dX12_undo_7 (by decide) ?_
    rw [hQ]
    refine W.widen (k := 0) (n := 0) (Nat.le_refl _) (Nat.le_refl _) ?_
    exact W.iret (v := (-1)) hx hb hr (fun t ht hW => ⟨⟨(-1), ws, rfl, ⟨(by decide), (by decide), hw.2.2.2.2, hM, ⟨f1, (by omega), (by omega), f_f0_M_said_10⟩⟩, by rw [ht]; exact hw.2.1, va_K.moved hW.alike hw.1, hw.2.2.1⟩, hw.2.2.2.1.F ht⟩) hw.2.2.2.1.2.2 dX12_undo_8
set_option maxHeartbeats 4000000 in
set_option maxRecDepth 100000 in
theorem t_X12_visit (l : Launch) (dC : Nat → ClassId) (dI : Nat → Nat → Nat) (tys : List (ClassId × FieldType)) (κ : tK) (B : Nat) (ws : va_W) (hT : Ty κ tys B ws) (a0 : Nat) (k_a0 : κ a0 = some 12) (a1 : Int32) (f0 : Nat) (k_f0 : κ f0 = some 63) (f_a0_X12_20 : fld ws a0 12 20 (.ref f0)) (f1 : Int32) (l_f1 : 0 ≤ f1.toInt) (h_f1 : f1.toInt ≤ 999) (f_f0_M_said_10 : elt ws f0 (10 : Int32).toInt.toNat f1) (sz : Nat) : Met l yX12_visit (ws_u yX12_visit cX12_visit 4 (some .int)) ({ frames := 1, cells := 0, slots := 0, locals := 22 }) (va_Pc [.ref a0, .int a1] (cPre (dC, dI) tys ws sz)) (va_Qi (fun (r : Int32) (w : va_W) => Ty κ tys B w ∧ Sm [(12, 26)] [63, 65] κ ws w ∧ elt w f0 (10 : Int32).toInt.toNat f1) (fun w t => cPost (dC, dI) tys w (va_A ws sz) t) (va_A ws sz)) 0 0 (va_A ws sz) := by
  refine Met.ofW (cc := cX12_visit) (maxL := 4) (ret := (some .int)) (by decide) rfl ?_
  intro p e s m args below meth c s₁ B0 hml hv
  obtain ⟨rfl, hsz, hP, hK, hD0, hE⟩ := hv
  have hx := B0.exec
  have hb := B0.bytes
  have hr := B0.returns
  have hts0 := atoms_spec (ws := ws_u yX12_visit cX12_visit 4 (some .int)) B0.pre
  have hts : ∀ w ∈ gT, w.before _ s = true := fun w h => hts0 w (List.mem_cons_of_mem _ h)
  have hown : s.vm.findClass RX12 = some m.cls := findClass_of_methodNamed B0.named
  have hlocks := B0.notSynchronized
  subst hsz
  have hD := hD0.self (sz := s.heap.size)
  generalize hAe : va_A ws s.heap.size = A at hD ⊢
  have hA : ∀ q : Nat, s.heap.size ≤ q → A q := fun q h => by rw [← hAe]; exact Or.inr h
  have hw : tW (dC, dI) tys κ B A s ws s.heap [] := ⟨hK, hP, hD, va_S.rf, hT⟩
  have hM : Sm [(12, 26)] [63, 65] κ ws ws := Sm.rf
  clear hP hK hD hD0 hts0
  have l_a1 := i32_lo a1
  have h_a1 := i32_hi a1
  have hl := lv_entry ([.ref a0, .int a1]) (n := 4) (Nat.le_of_ble_eq_true rfl)
  rw [lg_entry_eq]
  generalize (lg_sl ([.ref a0, .int a1]) ++ List.replicate (4 - (lg_sl ([.ref a0, .int a1])).length) Slot.unset).toArray = ls at hl ⊢
  have hl : lv_has ls 4 [(0, .ref a0), (1, .int a1)] := hl
  refine t_start (fun QQ hQ => ?_)
  refine lv_aload_n hx hb dX12_visit_0 rfl (lv_at hl 0 rfl) ?_
  refine lv_iload_n hx hb dX12_visit_1 rfl (lv_at hl 1 rfl) ?_
  refine t_calli (va_runV (As := [.int a1]) (rest := []) ⟨hx, hb, hml, hown, hts⟩ (t_X12_isFarm l dC dI tys κ B ws hw.2.2.2.2 a0 k_a0 a1 s.heap.size) (cwV 1 hts (gUV tw_1477 tw_1479 ts_5_11 tw_13 tw_1480) rfl rfl rfl (by decide +kernel) ⟨(Nat.le_of_ble_eq_true rfl), (Nat.le_of_ble_eq_true rfl)⟩) ⟨cPre.blind, t_recv hw (ci := 12) k_a0 rfl rfl, cPre.use hw.2.1 hw.1 hw.2.2.1 hE⟩ rfl rfl hl.1 rfl (lv_room (Nat.le_of_ble_eq_true rfl)) dX12_visit_2 ⟨(Nat.le_of_ble_eq_true rfl), (Nat.le_of_ble_eq_true rfl)⟩) hw hA (fun _ _ h => h.2.2.1) (fun v2 w_1 H locs hp hw => ?_)
  obtain ⟨l_v2, h_v2, _, hm, x_v2_0⟩ := hp
  have hM := hM.trans hm (by decide) (by decide)
  have f_a0_X12_20 := hm.1 _ _ _ _ f_a0_X12_20 (by decide)
  have f_f0_M_said_10 := hm.elt k_f0 (by decide) f_f0_M_said_10
  refine lv_if_eq (tgt := 29) hx hb dX12_visit_5 (by decide) (fun c_5 => ?_) (fun c_5 => ?_)
  · simp only [fa_lt, fa_le, fa_eq, li_0] at c_5
    refine lv_iconst (v := (-1)) hx hb dX12_visit_29 (by decide) ?_
    rw [hQ]
    refine W.widen (k := 0) (n := 0) (Nat.le_refl _) (Nat.le_refl _) ?_
    exact W.iret (v := (-1)) hx hb hr (fun t ht hW => ⟨⟨(-1), w_1, rfl, ⟨hw.2.2.2.2, hM, f_f0_M_said_10⟩, by rw [ht]; exact hw.2.1, va_K.moved hW.alike hw.1, hw.2.2.1⟩, hw.2.2.2.1.F ht⟩) hw.2.2.2.1.2.2 dX12_visit_30
  · simp only [fa_lt, fa_le, fa_eq, li_0] at c_5
    refine lv_aload_n hx hb dX12_visit_8 rfl (lv_at hl 0 rfl) ?_
    refine t_getk (ci := 12) (C := RX12) (T := TX12) (N := 38) hx hb hts iX12 hown hw rfl 20 (by decide) (hts _ tw_1145) (fun _ h9 => h9) dX12_visit_9 f_a0_X12_20 ?_
    refine lv_bipush (v := 11) hx hb dX12_visit_12 (by decide) ?_
    refine t_iald hx hb hw k_f0 rfl rfl (by decide) (by decide) dX12_visit_14 (fun v14 r_v14 s_v14 f_f0_M_said_11 => ?_)
    have l_v14 : (-1) ≤ v14.toInt := by rw [iv_63_11] at r_v14; exact r_v14
    have h_v14 : v14.toInt ≤ 5 := by rw [iv_63_11] at s_v14; exact s_v14
    refine lv_if_lt (tgt := 29) hx hb dX12_visit_15 (by decide) (fun c_15 => ?_) (fun c_15 => ?_)
    · simp only [fa_lt, fa_le, fa_eq, li_0] at c_15
      refine lv_iconst (v := (-1)) hx hb dX12_visit_29 (by decide) ?_
      rw [hQ]
      refine W.widen (k := 0) (n := 0) (Nat.le_refl _) (Nat.le_refl _) ?_
      exact W.iret (v := (-1)) hx hb hr (fun t ht hW => ⟨⟨(-1), w_1, rfl, ⟨hw.2.2.2.2, hM, f_f0_M_said_10⟩, by rw [ht]; exact hw.2.1, va_K.moved hW.alike hw.1, hw.2.2.1⟩, hw.2.2.2.1.F ht⟩) hw.2.2.2.1.2.2 dX12_visit_30
    · simp only [fa_lt, fa_le, fa_eq, li_0] at c_15
      refine lv_aload_n hx hb dX12_visit_18 rfl (lv_at hl 0 rfl) ?_
      refine t_getk (ci := 12) (C := RX12) (T := TX12) (N := 38) hx hb hts iX12 hown hw rfl 20 (by decide) (hts _ tw_1145) (fun _ h9 => h9) dX12_visit_19 f_a0_X12_20 ?_
      refine lv_bipush (v := 15) hx hb dX12_visit_22 (by decide) ?_
      refine t_iald hx hb hw k_f0 rfl rfl (by decide) (by decide) dX12_visit_24 (fun v24 r_v24 s_v24 f_f0_M_said_15 => ?_)
      have l_v24 := i32_lo v24
      have h_v24 := i32_hi v24
      refine lv_iconst (v := 1) hx hb dX12_visit_25 (by decide) ?_
      refine lv_icmp_ne (tgt := 31) hx hb dX12_visit_26 (by decide) (fun c_26 => ?_) (fun c_26 => ?_)
      · simp only [fa_lt, fa_le, fa_eq, li_1] at c_26
        refine lv_aload_n hx hb dX12_visit_31 rfl (lv_at hl 0 rfl) ?_
        refine lv_iconst (v := 0) hx hb dX12_visit_32 (by decide) ?_
        refine lv_iload_n hx hb dX12_visit_33 rfl (lv_at hl 1 rfl) ?_
        refine lv_iconst (v := 1) hx hb dX12_visit_34 (by decide) ?_
        refine lv_iadd hx hb dX12_visit_35 ?_
        refine lv_topi (fun v35 e_v35 => ?_)
        have e_v35 : v35.toInt = a1.toInt + 1 := ad_i e_v35 rfl li_1 (by omega) (by omega)
        refine t_calli (va_runV (As := [.int 0, .int v35]) (rest := []) ⟨hx, hb, hml, hown, hts⟩ (t_X12_farOf l dC dI tys κ B w_1 hw.2.2.2.2 a0 k_a0 0 (by decide) (by decide) v35 (by omega) (by omega) H.size) (cwV 2 hts (gUV tw_1428 tw_1430 ts_5_4 tw_13 tw_1431) rfl rfl rfl (by decide +kernel) ⟨(Nat.le_of_ble_eq_true rfl), (Nat.le_of_ble_eq_true rfl)⟩) ⟨cPre.blind, t_recv hw (ci := 12) k_a0 rfl rfl, cPre.use hw.2.1 hw.1 hw.2.2.1 hE⟩ rfl rfl hl.1 rfl (lv_room (Nat.le_of_ble_eq_true rfl)) dX12_visit_36 ⟨(Nat.le_of_ble_eq_true rfl), (Nat.le_of_ble_eq_true rfl)⟩) hw hA (fun _ _ h => h.1) (fun v36 w_2 H locs hp hw => ?_)
        obtain ⟨_, hm⟩ := hp
        have l_v36 := i32_lo v36
        have h_v36 := i32_hi v36
        have hM := hM.trans hm (by decide) (by decide)
        have f_a0_X12_20 := hm.1 _ _ _ _ f_a0_X12_20 (by decide)
        have f_f0_M_said_10 := hm.elt k_f0 (by decide) f_f0_M_said_10
        have f_f0_M_said_11 := hm.elt k_f0 (by decide) f_f0_M_said_11
        have f_f0_M_said_15 := hm.elt k_f0 (by decide) f_f0_M_said_15
        refine lv_aload_n hx hb dX12_visit_39 rfl (lv_at hl 0 rfl) ?_
        refine t_calli (va_runV (As := []) (rest := [.int v36]) ⟨hx, hb, hml, hown, hts⟩ (t_X12_isSnow l dC dI tys κ B w_2 hw.2.2.2.2 a0 k_a0 H.size) (cwV 0 hts (gUV tw_1556 tw_1558 ts_6_12 tw_13 tw_1559) rfl rfl rfl (by decide +kernel) ⟨(Nat.le_of_ble_eq_true rfl), (Nat.le_of_ble_eq_true rfl)⟩) ⟨cPre.blind, t_recv hw (ci := 12) k_a0 rfl rfl, cPre.use hw.2.1 hw.1 hw.2.2.1 hE⟩ rfl rfl hl.1 rfl (lv_room (Nat.le_of_ble_eq_true rfl)) dX12_visit_40 ⟨(Nat.le_of_ble_eq_true rfl), (Nat.le_of_ble_eq_true rfl)⟩) hw hA (fun _ _ h => h.2.2.1) (fun v40 w_3 H locs hp hw => ?_)
        obtain ⟨l_v40, h_v40, _, hm⟩ := hp
        have hM := hM.trans hm (by decide) (by decide)
        have f_a0_X12_20 := hm.1 _ _ _ _ f_a0_X12_20 (by decide)
        have f_f0_M_said_10 := hm.elt k_f0 (by decide) f_f0_M_said_10
        have f_f0_M_said_11 := hm.elt k_f0 (by decide) f_f0_M_said_11
        have f_f0_M_said_15 := hm.elt k_f0 (by decide) f_f0_M_said_15
        have J51 : ∀ (H : Heap) (locs : List Loc) (ls : Array Slot) (w51 : va_W) (p51_s0 : Int32), tW (dC, dI) tys κ B A s w51 H locs → Sm [(12, 26)] [63, 65] κ ws w51 → 2 ≤ p51_s0.toInt → p51_s0.toInt ≤ 4 → fld w51 a0 12 20 (.ref f0) → elt w51 f0 (10 : Int32).toInt.toNat f1 → elt w51 f0 (11 : Int32).toInt.toNat v14 → elt w51 f0 (15 : Int32).toInt.toNat v24 → lv_has ls 4 [(0, .ref a0), (1, .int a1)] → W p l e (headSpec (ws_u yX12_visit cX12_visit 4 (some .int)) ({ frames := 1, cells := 0, slots := 0, locals := 22 })).room s m ([.ref a0, .int a1] : List Value).toArray below meth c H locs 0 0 QQ (F0 m 51 ls [.int p51_s0, .int v36]) := by
          intro H locs ls w51 p51_s0 hw hM l_p51_s0 h_p51_s0 f_a0_X12_20 f_f0_M_said_10 f_f0_M_said_11 f_f0_M_said_15 hl
          refine lv_imul hx hb dX12_visit_51 ?_
          refine lv_topi (fun v51 e_v51 => ?_)
          have l_v51 := i32_lo v51
          have h_v51 := i32_hi v51
          refine lv_aload_n hx hb dX12_visit_52 rfl (lv_at hl 0 rfl) ?_
          refine t_getk (ci := 12) (C := RX12) (T := TX12) (N := 38) hx hb hts iX12 hown hw rfl 20 (by decide) (hts _ tw_1145) (fun _ h9 => h9) dX12_visit_53 f_a0_X12_20 ?_
          refine lv_iconst (v := 2) hx hb dX12_visit_56 (by decide) ?_
          refine t_iald hx hb hw k_f0 rfl rfl (by decide) (by decide) dX12_visit_57 (fun v57 r_v57 s_v57 f_f0_M_said_2 => ?_)
          have l_v57 := i32_lo v57
          have h_v57 := i32_hi v57
          refine lv_icmp_le (tgt := 63) hx hb dX12_visit_58 (by decide) (fun c_58 => ?_) (fun c_58 => ?_)
          · simp only [fa_lt, fa_le, fa_eq] at c_58
            refine lv_aload_n hx hb dX12_visit_63 rfl (lv_at hl 0 rfl) ?_
            refine t_callv (va_runV (As := []) (rest := []) ⟨hx, hb, hml, hown, hts⟩ (t_X12_keepsAct l dC dI tys κ B w51 hw.2.2.2.2 a0 k_a0 f0 k_f0 f_a0_X12_20 f1 (by omega) (by omega) f_f0_M_said_10 H.size) (cwV 0 hts (gUV tw_1493 tw_1495 ts_5_13 tw_13 tw_1496) rfl rfl rfl (by decide +kernel) ⟨(Nat.le_of_ble_eq_true rfl), (Nat.le_of_ble_eq_true rfl)⟩) ⟨cPre.blind, t_recv hw (ci := 12) k_a0 rfl rfl, cPre.use hw.2.1 hw.1 hw.2.2.1 hE⟩ rfl rfl hl.1 rfl (lv_room (Nat.le_of_ble_eq_true rfl)) dX12_visit_64 ⟨(Nat.le_of_ble_eq_true rfl), (Nat.le_of_ble_eq_true rfl)⟩) hw hA (fun _ h => h.1) (fun w_4 H locs hp hw => ?_)
            obtain ⟨_, hm⟩ := hp
            have hM := hM.trans hm (by decide) (by decide)
            have f_a0_X12_20 := hm.1 _ _ _ _ f_a0_X12_20 (by decide)
            have f_f0_M_said_10 := hm.elt k_f0 (by decide) f_f0_M_said_10
            have f_f0_M_said_11 := hm.elt k_f0 (by decide) f_f0_M_said_11
            have f_f0_M_said_15 := hm.elt k_f0 (by decide) f_f0_M_said_15
            have f_f0_M_said_2 := hm.elt k_f0 (by decide) f_f0_M_said_2
            refine lv_aload_n hx hb dX12_visit_67 rfl (lv_at hl 0 rfl) ?_
            refine t_getk (ci := 12) (C := RX12) (T := TX12) (N := 38) hx hb hts iX12 hown hw rfl 20 (by decide) (hts _ tw_1145) (fun _ h9 => h9) dX12_visit_68 f_a0_X12_20 ?_
            refine lv_bipush (v := 34) hx hb dX12_visit_71 (by decide) ?_
            refine lv_iload_n hx hb dX12_visit_73 rfl (lv_at hl 1 rfl) ?_
            refine lv_iadd hx hb dX12_visit_74 ?_
            refine lv_topi (fun v74 e_v74 => ?_)
            have e_v74 : v74.toInt = 34 + a1.toInt := ad_i e_v74 li_34 rfl (by omega) (by omega)
            refine t_iald hx hb hw k_f0 rfl rfl (by omega) (show v74.toInt < 306 by omega) dX12_visit_75 (fun v75 r_v75 s_v75 q_v75 => ?_)
            have l_v75 := i32_lo v75
            have h_v75 := i32_hi v75
            refine lv_istore_n (lv' := [(2, .int v75), (0, .ref a0), (1, .int a1)]) hx hb dX12_visit_76 rfl hl (by decide) rfl (fun ls hl => ?_)
            refine lv_iload_n hx hb dX12_visit_77 rfl (lv_at hl 0 rfl) ?_
            refine lv_aload_n hx hb dX12_visit_78 rfl (lv_at hl 1 rfl) ?_
            refine lv_aload_n hx hb dX12_visit_79 rfl (lv_at hl 1 rfl) ?_
            refine t_getk (ci := 12) (C := RX12) (T := TX12) (N := 38) hx hb hts iX12 hown hw rfl 20 (by decide) (hts _ tw_1145) (fun _ h9 => h9) dX12_visit_80 f_a0_X12_20 ?_
            refine lv_bipush (v := 11) hx hb dX12_visit_83 (by decide) ?_
            refine t_ialdk hx hb hw k_f0 rfl rfl (by decide) (by decide) f_f0_M_said_11 dX12_visit_85 ?_
            refine lv_iconst (v := 1) hx hb dX12_visit_86 (by decide) ?_
            refine t_calli (va_runV (As := [.int v14, .int 1]) (rest := [.int v75]) ⟨hx, hb, hml, hown, hts⟩ (t_X12_boyOf l dC dI tys κ B w_4 hw.2.2.2.2 a0 k_a0 v14 (by omega) (by omega) 1 (by decide) (by decide) H.size) (cwV 2 hts (gUV tw_1453 tw_1455 ts_5_8 tw_13 tw_1456) rfl rfl rfl (by decide +kernel) ⟨(Nat.le_of_ble_eq_true rfl), (Nat.le_of_ble_eq_true rfl)⟩) ⟨cPre.blind, t_recv hw (ci := 12) k_a0 rfl rfl, cPre.use hw.2.1 hw.1 hw.2.2.1 hE⟩ rfl rfl hl.1 rfl (lv_room (Nat.le_of_ble_eq_true rfl)) dX12_visit_87 ⟨(Nat.le_of_ble_eq_true rfl), (Nat.le_of_ble_eq_true rfl)⟩) hw hA (fun _ _ h => h.1) (fun v87 w_5 H locs hp hw => ?_)
            obtain ⟨_, hm⟩ := hp
            have l_v87 := i32_lo v87
            have h_v87 := i32_hi v87
            have hM := hM.trans hm (by decide) (by decide)
            have f_a0_X12_20 := hm.1 _ _ _ _ f_a0_X12_20 (by decide)
            have f_f0_M_said_10 := hm.elt k_f0 (by decide) f_f0_M_said_10
            have f_f0_M_said_11 := hm.elt k_f0 (by decide) f_f0_M_said_11
            have f_f0_M_said_15 := hm.elt k_f0 (by decide) f_f0_M_said_15
            have f_f0_M_said_2 := hm.elt k_f0 (by decide) f_f0_M_said_2
            refine lv_imul hx hb dX12_visit_90 ?_
            refine lv_topi (fun v90 e_v90 => ?_)
            have l_v90 := i32_lo v90
            have h_v90 := i32_hi v90
            refine lv_bipush (v := 99) hx hb dX12_visit_91 (by decide) ?_
            refine lv_iadd hx hb dX12_visit_93 ?_
            refine lv_topi (fun v93 e_v93 => ?_)
            have l_v93 := i32_lo v93
            have h_v93 := i32_hi v93
            refine lv_bipush (v := 100) hx hb dX12_visit_94 (by decide) ?_
            refine lv_idiv hx hb dX12_visit_96 (ne_i li_100 (by decide)) ?_
            refine lv_topi (fun v96 e_v96 => ?_)
            have l_v96 := i32_lo v96
            have h_v96 := i32_hi v96
            refine lv_istore_n (lv' := [(3, .int v96), (2, .int v75), (0, .ref a0), (1, .int a1)]) hx hb dX12_visit_97 rfl hl (by decide) rfl (fun ls hl => ?_)
            refine lv_aload_n hx hb dX12_visit_98 rfl (lv_at hl 2 rfl) ?_
            refine t_getk (ci := 12) (C := RX12) (T := TX12) (N := 38) hx hb hts iX12 hown hw rfl 20 (by decide) (hts _ tw_1145) (fun _ h9 => h9) dX12_visit_99 f_a0_X12_20 ?_
            refine lv_bipush (v := 34) hx hb dX12_visit_102 (by decide) ?_
            refine lv_iload_n hx hb dX12_visit_104 rfl (lv_at hl 3 rfl) ?_
            refine lv_iadd hx hb dX12_visit_105 ?_
            refine lv_topi (fun v105 e_v105 => ?_)
            have e_v105 : v105.toInt = 34 + a1.toInt := ad_i e_v105 li_34 rfl (by omega) (by omega)
            refine lv_iconst (v := 0) hx hb dX12_visit_106 (by decide) ?_
            refine t_iast hx hb hw k_f0 rfl rfl (by omega) (show v105.toInt < 306 by omega) (by rw [fr_63 (by omega) (by omega)]; exact i32_lo _) (by rw [fr_63 (by omega) (by omega)]; exact i32_hi _) dX12_visit_107 (fun w_6 H locs hw u => ?_)
            have hM := hM.up3 u k_f0 (by decide)
            have f_a0_X12_20 := u.1 _ _ _ _ f_a0_X12_20
            have f_f0_M_said_10 := u.2.2.1 _ _ _ f_f0_M_said_10 (Or.inr (by rw [show (10 : Int32).toInt.toNat = 10 by decide]; omega))
            have f_f0_M_said_11 := u.2.2.1 _ _ _ f_f0_M_said_11 (Or.inr (by rw [show (11 : Int32).toInt.toNat = 11 by decide]; omega))
            have f_f0_M_said_15 := u.2.2.1 _ _ _ f_f0_M_said_15 (Or.inr (by rw [show (15 : Int32).toInt.toNat = 15 by decide]; omega))
            have f_f0_M_said_2 := u.2.2.1 _ _ _ f_f0_M_said_2 (Or.inr (by rw [show (2 : Int32).toInt.toNat = 2 by decide]; omega))
            refine lv_aload_n hx hb dX12_visit_108 rfl (lv_at hl 2 rfl) ?_
            refine t_getk (ci := 12) (C := RX12) (T := TX12) (N := 38) hx hb hts iX12 hown hw rfl 20 (by decide) (hts _ tw_1145) (fun _ h9 => h9) dX12_visit_109 f_a0_X12_20 ?_
            refine lv_bipush (v := 13) hx hb dX12_visit_112 (by decide) ?_
            refine lv_aload_n hx hb dX12_visit_114 rfl (lv_at hl 2 rfl) ?_
            refine t_getk (ci := 12) (C := RX12) (T := TX12) (N := 38) hx hb hts iX12 hown hw rfl 20 (by decide) (hts _ tw_1145) (fun _ h9 => h9) dX12_visit_115 f_a0_X12_20 ?_
            refine lv_bipush (v := 13) hx hb dX12_visit_118 (by decide) ?_
            refine t_iald hx hb hw k_f0 rfl rfl (by decide) (by decide) dX12_visit_120 (fun v120 r_v120 s_v120 f_f0_M_said_13 => ?_)
            have l_v120 := i32_lo v120
            have h_v120 := i32_hi v120
            refine lv_iload_n hx hb dX12_visit_121 rfl (lv_at hl 1 rfl) ?_
            refine lv_iadd hx hb dX12_visit_122 ?_
            refine lv_topi (fun v122 e_v122 => ?_)
            have l_v122 := i32_lo v122
            have h_v122 := i32_hi v122
            refine lv_iload_n hx hb dX12_visit_123 rfl (lv_at hl 0 rfl) ?_
            refine lv_isub hx hb dX12_visit_124 ?_
            refine lv_topi (fun v124 e_v124 => ?_)
            have l_v124 := i32_lo v124
            have h_v124 := i32_hi v124
            refine lv_ldc (v := 99999) hx hb hown (hts _ tw_1359) dX12_visit_125 ?_
            refine t_calli (va_runS (As := [.int v124, .int 99999]) (rest := [.int 13, .ref f0]) ⟨hx, hb, hml, hown, hts⟩ (t_X12_atMost l dC dI tys κ B w_6 hw.2.2.2.2 v124 99999 H.size) (va_cwS 2 hts (gUS tw_1560 tw_1561 tw_13 tw_1562) rfl rfl rfl (by decide +kernel) ⟨(Nat.le_of_ble_eq_true rfl), (Nat.le_of_ble_eq_true rfl)⟩) ⟨cPre.blind, cPre.use hw.2.1 hw.1 hw.2.2.1 hE⟩ rfl rfl hl.1 rfl (lv_room (Nat.le_of_ble_eq_true rfl)) dX12_visit_127 ⟨(Nat.le_of_ble_eq_true rfl), (Nat.le_of_ble_eq_true rfl)⟩) hw hA (fun _ _ h => h.1) (fun v127 w_7 H locs hp hw => ?_)
            obtain ⟨_, hm⟩ := hp
            have l_v127 := i32_lo v127
            have h_v127 := i32_hi v127
            have hM := hM.trans hm (by decide) (by decide)
            have f_a0_X12_20 := hm.1 _ _ _ _ f_a0_X12_20 (by decide)
            have f_f0_M_said_10 := hm.elt k_f0 (by decide) f_f0_M_said_10
            have f_f0_M_said_11 := hm.elt k_f0 (by decide) f_f0_M_said_11
            have f_f0_M_said_15 := hm.elt k_f0 (by decide) f_f0_M_said_15
            have f_f0_M_said_2 := hm.elt k_f0 (by decide) f_f0_M_said_2
            have f_f0_M_said_13 := hm.elt k_f0 (by decide) f_f0_M_said_13
            refine t_iast hx hb hw k_f0 rfl rfl (by decide) (by decide) (by rw [iv_63_13]; exact i32_lo _) (by rw [iv_63_13]; exact i32_hi _) dX12_visit_130 (fun w_8 H locs hw u => ?_)
            have hM := hM.up3 u k_f0 (by decide)
            have f_a0_X12_20 := u.1 _ _ _ _ f_a0_X12_20
            have f_f0_M_said_10 := u.2.2.1 _ _ _ f_f0_M_said_10 (Or.inr (by decide))
            have f_f0_M_said_11 := u.2.2.1 _ _ _ f_f0_M_said_11 (Or.inr (by decide))
            have f_f0_M_said_15 := u.2.2.1 _ _ _ f_f0_M_said_15 (Or.inr (by decide))
            have f_f0_M_said_2 := u.2.2.1 _ _ _ f_f0_M_said_2 (Or.inr (by decide))
            have f_f0_M_said_13 := u.2.2.2
            refine lv_aload_n hx hb dX12_visit_131 rfl (lv_at hl 2 rfl) ?_
            refine t_getk (ci := 12) (C := RX12) (T := TX12) (N := 38) hx hb hts iX12 hown hw rfl 20 (by decide) (hts _ tw_1145) (fun _ h9 => h9) dX12_visit_132 f_a0_X12_20 ?_
            refine lv_bipush (v := 14) hx hb dX12_visit_135 (by decide) ?_
            refine lv_aload_n hx hb dX12_visit_137 rfl (lv_at hl 2 rfl) ?_
            refine t_getk (ci := 12) (C := RX12) (T := TX12) (N := 38) hx hb hts iX12 hown hw rfl 20 (by decide) (hts _ tw_1145) (fun _ h9 => h9) dX12_visit_138 f_a0_X12_20 ?_
            refine lv_bipush (v := 14) hx hb dX12_visit_141 (by decide) ?_
            refine t_iald hx hb hw k_f0 rfl rfl (by decide) (by decide) dX12_visit_143 (fun v143 r_v143 s_v143 f_f0_M_said_14 => ?_)
            have l_v143 := i32_lo v143
            have h_v143 := i32_hi v143
            refine lv_iload_n hx hb dX12_visit_144 rfl (lv_at hl 0 rfl) ?_
            refine lv_iadd hx hb dX12_visit_145 ?_
            refine lv_topi (fun v145 e_v145 => ?_)
            have l_v145 := i32_lo v145
            have h_v145 := i32_hi v145
            refine lv_ldc (v := 99999) hx hb hown (hts _ tw_1359) dX12_visit_146 ?_
            refine t_calli (va_runS (As := [.int v145, .int 99999]) (rest := [.int 14, .ref f0]) ⟨hx, hb, hml, hown, hts⟩ (t_X12_atMost l dC dI tys κ B w_8 hw.2.2.2.2 v145 99999 H.size) (va_cwS 2 hts (gUS tw_1560 tw_1561 tw_13 tw_1562) rfl rfl rfl (by decide +kernel) ⟨(Nat.le_of_ble_eq_true rfl), (Nat.le_of_ble_eq_true rfl)⟩) ⟨cPre.blind, cPre.use hw.2.1 hw.1 hw.2.2.1 hE⟩ rfl rfl hl.1 rfl (lv_room (Nat.le_of_ble_eq_true rfl)) dX12_visit_148 ⟨(Nat.le_of_ble_eq_true rfl), (Nat.le_of_ble_eq_true rfl)⟩) hw hA (fun _ _ h => h.1) (fun v148 w_9 H locs hp hw => ?_)
            obtain ⟨_, hm⟩ := hp
            have l_v148 := i32_lo v148
            have h_v148 := i32_hi v148
            have hM := hM.trans hm (by decide) (by decide)
            have f_a0_X12_20 := hm.1 _ _ _ _ f_a0_X12_20 (by decide)
            have f_f0_M_said_10 := hm.elt k_f0 (by decide) f_f0_M_said_10
            have f_f0_M_said_11 := hm.elt k_f0 (by decide) f_f0_M_said_11
            have f_f0_M_said_15 := hm.elt k_f0 (by decide) f_f0_M_said_15
            have f_f0_M_said_2 := hm.elt k_f0 (by decide) f_f0_M_said_2
            have f_f0_M_said_13 := hm.elt k_f0 (by decide) f_f0_M_said_13
            have f_f0_M_said_14 := hm.elt k_f0 (by decide) f_f0_M_said_14
            refine t_iast hx hb hw k_f0 rfl rfl (by decide) (by decide) (by rw [iv_63_14]; exact i32_lo _) (by rw [iv_63_14]; exact i32_hi _) dX12_visit_151 (fun w_10 H locs hw u => ?_)
            have hM := hM.up3 u k_f0 (by decide)
            have f_a0_X12_20 := u.1 _ _ _ _ f_a0_X12_20
            have f_f0_M_said_10 := u.2.2.1 _ _ _ f_f0_M_said_10 (Or.inr (by decide))
            have f_f0_M_said_11 := u.2.2.1 _ _ _ f_f0_M_said_11 (Or.inr (by decide))
            have f_f0_M_said_15 := u.2.2.1 _ _ _ f_f0_M_said_15 (Or.inr (by decide))
            have f_f0_M_said_2 := u.2.2.1 _ _ _ f_f0_M_said_2 (Or.inr (by decide))
            have f_f0_M_said_13 := u.2.2.1 _ _ _ f_f0_M_said_13 (Or.inr (by decide))
            have f_f0_M_said_14 := u.2.2.2
            refine lv_aload_n hx hb dX12_visit_152 rfl (lv_at hl 2 rfl) ?_
            refine t_getk (ci := 12) (C := RX12) (T := TX12) (N := 38) hx hb hts iX12 hown hw rfl 20 (by decide) (hts _ tw_1145) (fun _ h9 => h9) dX12_visit_153 f_a0_X12_20 ?_
            refine lv_bipush (v := 15) hx hb dX12_visit_156 (by decide) ?_
            refine lv_iconst (v := 1) hx hb dX12_visit_158 (by decide) ?_
            refine t_iast hx hb hw k_f0 rfl rfl (by decide) (by decide) (by rw [iv_63_15]; exact i32_lo _) (by rw [iv_63_15]; exact i32_hi _) dX12_visit_159 (fun w_11 H locs hw u => ?_)
            have hM := hM.up3 u k_f0 (by decide)
            have f_a0_X12_20 := u.1 _ _ _ _ f_a0_X12_20
            have f_f0_M_said_10 := u.2.2.1 _ _ _ f_f0_M_said_10 (Or.inr (by decide))
            have f_f0_M_said_11 := u.2.2.1 _ _ _ f_f0_M_said_11 (Or.inr (by decide))
            have f_f0_M_said_15 := u.2.2.2
            have f_f0_M_said_2 := u.2.2.1 _ _ _ f_f0_M_said_2 (Or.inr (by decide))
            have f_f0_M_said_13 := u.2.2.1 _ _ _ f_f0_M_said_13 (Or.inr (by decide))
            have f_f0_M_said_14 := u.2.2.1 _ _ _ f_f0_M_said_14 (Or.inr (by decide))
            refine lv_iload_n hx hb dX12_visit_160 rfl (lv_at hl 1 rfl) ?_
            refine lv_iload_n hx hb dX12_visit_161 rfl (lv_at hl 0 rfl) ?_
            refine lv_isub hx hb dX12_visit_162 ?_
            refine lv_topi (fun v162 e_v162 => ?_)
            have l_v162 := i32_lo v162
            have h_v162 := i32_hi v162
            rw [hQ]
            refine W.widen (k := 0) (n := 0) (Nat.le_refl _) (Nat.le_refl _) ?_
            exact W.iret (v := v162) hx hb hr (fun t ht hW => ⟨⟨v162, w_11, rfl, ⟨hw.2.2.2.2, hM, f_f0_M_said_10⟩, by rw [ht]; exact hw.2.1, va_K.moved hW.alike hw.1, hw.2.2.1⟩, hw.2.2.2.1.F ht⟩) hw.2.2.2.1.2.2 dX12_visit_163
          · simp only [fa_lt, fa_le, fa_eq] at c_58
            refine lv_iconst (v := (-1)) hx hb dX12_visit_61 (by decide) ?_
            rw [hQ]
            refine W.widen (k := 0) (n := 0) (Nat.le_refl _) (Nat.le_refl _) ?_
            exact W.iret (v := (-1)) hx hb hr (fun t ht hW => ⟨⟨(-1), w51, rfl, ⟨hw.2.2.2.2, hM, f_f0_M_said_10⟩, by rw [ht]; exact hw.2.1, va_K.moved hW.alike hw.1, hw.2.2.1⟩, hw.2.2.2.1.F ht⟩) hw.2.2.2.1.2.2 dX12_visit_62
        refine lv_if_eq (tgt := 50) hx hb dX12_visit_43 (by decide) (fun c_43 => ?_) (fun c_43 => ?_)
        · simp only [fa_lt, fa_le, fa_eq, li_0] at c_43
          refine lv_iconst (v := 2) hx hb dX12_visit_50 (by decide) ?_
          exact J51 _ _ _ w_3 2 hw hM (by decide) (by decide) f_a0_X12_20 f_f0_M_said_10 f_f0_M_said_11 f_f0_M_said_15 (lv_sub hl [0, 1] rfl)
        · simp only [fa_lt, fa_le, fa_eq, li_0] at c_43
          refine lv_iconst (v := 4) hx hb dX12_visit_46 (by decide) ?_
          refine lv_goto (tgt := 51) hx hb dX12_visit_47 (by decide) ?_
          exact J51 _ _ _ w_3 4 hw hM (by decide) (by decide) f_a0_X12_20 f_f0_M_said_10 f_f0_M_said_11 f_f0_M_said_15 (lv_sub hl [0, 1] rfl)
      · simp only [fa_lt, fa_le, fa_eq, li_1] at c_26
        refine lv_iconst (v := (-1)) hx hb dX12_visit_29 (by decide) ?_
        rw [hQ]
        refine W.widen (k := 0) (n := 0) (Nat.le_refl _) (Nat.le_refl _) ?_
        exact W.iret (v := (-1)) hx hb hr (fun t ht hW => ⟨⟨(-1), w_1, rfl, ⟨hw.2.2.2.2, hM, f_f0_M_said_10⟩, by rw [ht]; exact hw.2.1, va_K.moved hW.alike hw.1, hw.2.2.1⟩, hw.2.2.2.1.F ht⟩) hw.2.2.2.1.2.2 dX12_visit_30
set_option maxHeartbeats 4000000 in
set_option maxRecDepth 100000 in
theorem t_X12_votes (l : Launch) (dC : Nat → ClassId) (dI : Nat → Nat → Nat) (tys : List (ClassId × FieldType)) (κ : tK) (B : Nat) (ws : va_W) (hT : Ty κ tys B ws) (a0 : Nat) (k_a0 : κ a0 = some 12) (a1 : Int32) (a2 : Int32) (sz : Nat) : Met l yX12_votes (ws_u yX12_votes cX12_votes 3 (some .int)) ({ frames := 17, cells := 0, slots := 0, locals := 524 }) (va_Pc [.ref a0, .int a1, .int a2] (cPre (dC, dI) tys ws sz)) (va_Qi (fun (r : Int32) (w : va_W) => Ty κ tys B w ∧ Sm [(12, 18)] [61, 62, 64] κ ws w) (fun w t => cPost (dC, dI) tys w (va_A ws sz) t) (va_A ws sz)) 0 0 (va_A ws sz) := by
  refine Met.ofW (cc := cX12_votes) (maxL := 3) (ret := (some .int)) (by decide) rfl ?_
  intro p e s m args below meth c s₁ B0 hml hv
  obtain ⟨rfl, hsz, hP, hK, hD0, hE⟩ := hv
  have hx := B0.exec
  have hb := B0.bytes
  have hr := B0.returns
  have hts0 := atoms_spec (ws := ws_u yX12_votes cX12_votes 3 (some .int)) B0.pre
  have hts : ∀ w ∈ gT, w.before _ s = true := fun w h => hts0 w (List.mem_cons_of_mem _ h)
  have hown : s.vm.findClass RX12 = some m.cls := findClass_of_methodNamed B0.named
  have hlocks := B0.notSynchronized
  subst hsz
  have hD := hD0.self (sz := s.heap.size)
  generalize hAe : va_A ws s.heap.size = A at hD ⊢
  have hA : ∀ q : Nat, s.heap.size ≤ q → A q := fun q h => by rw [← hAe]; exact Or.inr h
  have hw : tW (dC, dI) tys κ B A s ws s.heap [] := ⟨hK, hP, hD, va_S.rf, hT⟩
  have hM : Sm [(12, 18)] [61, 62, 64] κ ws ws := Sm.rf
  clear hP hK hD hD0 hts0
  have l_a1 := i32_lo a1
  have h_a1 := i32_hi a1
  have l_a2 := i32_lo a2
  have h_a2 := i32_hi a2
  have hl := lv_entry ([.ref a0, .int a1, .int a2]) (n := 3) (Nat.le_of_ble_eq_true rfl)
  rw [lg_entry_eq]
  generalize (lg_sl ([.ref a0, .int a1, .int a2]) ++ List.replicate (3 - (lg_sl ([.ref a0, .int a1, .int a2])).length) Slot.unset).toArray = ls at hl ⊢
  have hl : lv_has ls 3 [(0, .ref a0), (1, .int a1), (2, .int a2)] := hl
  refine t_start (fun QQ hQ => ?_)
  refine lv_aload_n hx hb dX12_votes_0 rfl (lv_at hl 0 rfl) ?_
  refine t_calli (va_runV (As := []) (rest := []) ⟨hx, hb, hml, hown, hts⟩ (t_X12_isChoir l dC dI tys κ B ws hw.2.2.2.2 a0 k_a0 s.heap.size) (cwV 0 hts (gUV tw_1489 tw_1491 ts_5_12 tw_13 tw_1492) rfl rfl rfl (by decide +kernel) ⟨(Nat.le_of_ble_eq_true rfl), (Nat.le_of_ble_eq_true rfl)⟩) ⟨cPre.blind, t_recv hw (ci := 12) k_a0 rfl rfl, cPre.use hw.2.1 hw.1 hw.2.2.1 hE⟩ rfl rfl hl.1 rfl (lv_room (Nat.le_of_ble_eq_true rfl)) dX12_votes_1 ⟨(Nat.le_of_ble_eq_true rfl), (Nat.le_of_ble_eq_true rfl)⟩) hw hA (fun _ _ h => h.2.2.1) (fun v1 w_1 H locs hp hw => ?_)
  obtain ⟨l_v1, h_v1, _, hm⟩ := hp
  have hM := hM.trans hm (by decide) (by decide)
  refine lv_if_eq (tgt := 32) hx hb dX12_votes_4 (by decide) (fun c_4 => ?_) (fun c_4 => ?_)
  · simp only [fa_lt, fa_le, fa_eq, li_0] at c_4
    refine lv_bipush (v := (-2)) hx hb dX12_votes_32 (by decide) ?_
    rw [hQ]
    refine W.widen (k := 0) (n := 0) (Nat.le_refl _) (Nat.le_refl _) ?_
    exact W.iret (v := (-2)) hx hb hr (fun t ht hW => ⟨⟨(-2), w_1, rfl, ⟨hw.2.2.2.2, hM⟩, by rw [ht]; exact hw.2.1, va_K.moved hW.alike hw.1, hw.2.2.1⟩, hw.2.2.2.1.F ht⟩) hw.2.2.2.1.2.2 dX12_votes_34
  · simp only [fa_lt, fa_le, fa_eq, li_0] at c_4
    refine lv_iload_n hx hb dX12_votes_7 rfl (lv_at hl 2 rfl) ?_
    refine lv_i2l hx hb dX12_votes_8 rfl ?_
    refine lv_topl (fun v8 e_v8 => ?_)
    have t_v8 : v8.toInt = a2.toInt := by rw [e_v8, Int32.toInt_toInt64]
    refine lv_lconst (v := 0) hx hb dX12_votes_9 (by decide) ?_
    obtain ⟨v9, e_v9⟩ : ∃ y : Int64, y = 0 := ⟨_, rfl⟩
    refine W.eq (g2 := F0 m 10 ls [.long v9, .long v8]) (by rw [e_v9]) ?_
    have t_v9 : v9.toInt = 0 := by rw [e_v9]; decide
    refine lv_ldc2 (v := 2) hx hb hown (hts _ tw_1597) dX12_votes_10 ?_
    refine lv_topl (fun v10 e_v10 => ?_)
    have t_v10 : v10.toInt = 2 := by rw [e_v10]; decide
    refine t_calli (va_runS (As := [.long v8, .long v9, .long v10]) (rest := []) ⟨hx, hb, hml, hown, hts⟩ (t_X12_in l dC dI tys κ B w_1 hw.2.2.2.2 v8 v9 v10 H.size) (va_cwS 3 hts (gUS tw_1316 tw_1317 tw_13 tw_1318) rfl rfl rfl (by decide +kernel) ⟨(Nat.le_of_ble_eq_true rfl), (Nat.le_of_ble_eq_true rfl)⟩) ⟨cPre.blind, cPre.use hw.2.1 hw.1 hw.2.2.1 hE⟩ rfl rfl hl.1 rfl (lv_room (Nat.le_of_ble_eq_true rfl)) dX12_votes_13 ⟨(Nat.le_of_ble_eq_true rfl), (Nat.le_of_ble_eq_true rfl)⟩) hw hA (fun _ _ h => h.2.2.1) (fun v13 w_2 H locs hp hw => ?_)
    obtain ⟨l_v13, h_v13, _, hm, x_v13_0⟩ := hp
    have hM := hM.trans hm (by decide) (by decide)
    refine lv_if_eq (tgt := 32) hx hb dX12_votes_16 (by decide) (fun c_16 => ?_) (fun c_16 => ?_)
    · simp only [fa_lt, fa_le, fa_eq, li_0] at c_16
      refine lv_bipush (v := (-2)) hx hb dX12_votes_32 (by decide) ?_
      rw [hQ]
      refine W.widen (k := 0) (n := 0) (Nat.le_refl _) (Nat.le_refl _) ?_
      exact W.iret (v := (-2)) hx hb hr (fun t ht hW => ⟨⟨(-2), w_2, rfl, ⟨hw.2.2.2.2, hM⟩, by rw [ht]; exact hw.2.1, va_K.moved hW.alike hw.1, hw.2.2.1⟩, hw.2.2.2.1.F ht⟩) hw.2.2.2.1.2.2 dX12_votes_34
    · simp only [fa_lt, fa_le, fa_eq, li_0] at c_16
      refine lv_iload_n hx hb dX12_votes_19 rfl (lv_at hl 2 rfl) ?_
      refine lv_iconst (v := 2) hx hb dX12_votes_20 (by decide) ?_
      refine lv_icmp_ge (tgt := 35) hx hb dX12_votes_21 (by decide) (fun c_21 => ?_) (fun c_21 => ?_)
      · simp only [fa_lt, fa_le, fa_eq, li_2] at c_21
        refine lv_aload_n hx hb dX12_votes_35 rfl (lv_at hl 0 rfl) ?_
        refine t_callv (va_runV (As := []) (rest := []) ⟨hx, hb, hml, hown, hts⟩ (t_X12_fillsVotes l dC dI tys κ B w_2 hw.2.2.2.2 a0 k_a0 H.size) (cwV 0 hts (gUV tw_1509 tw_1511 ts_6_1 tw_13 tw_1512) rfl rfl rfl (by decide +kernel) ⟨(Nat.le_of_ble_eq_true rfl), (Nat.le_of_ble_eq_true rfl)⟩) ⟨cPre.blind, t_recv hw (ci := 12) k_a0 rfl rfl, cPre.use hw.2.1 hw.1 hw.2.2.1 hE⟩ rfl rfl hl.1 rfl (lv_room (Nat.le_of_ble_eq_true rfl)) dX12_votes_36 ⟨(Nat.le_of_ble_eq_true rfl), (Nat.le_of_ble_eq_true rfl)⟩) hw hA (fun _ h => h.1) (fun w_3 H locs hp hw => ?_)
        obtain ⟨_, hm⟩ := hp
        have hM := hM.trans hm (by decide) (by decide)
        refine lv_iload_n hx hb dX12_votes_39 rfl (lv_at hl 2 rfl) ?_
        refine lv_if_ne (tgt := 52) hx hb dX12_votes_40 (by decide) (fun c_40 => ?_) (fun c_40 => by exfalso; simp only [fa_lt, fa_le, fa_eq, li_0] at c_40; omega)
        simp only [fa_lt, fa_le, fa_eq, li_0] at c_40
        refine lv_iload_n hx hb dX12_votes_52 rfl (lv_at hl 2 rfl) ?_
        refine lv_iconst (v := 1) hx hb dX12_votes_53 (by decide) ?_
        refine lv_icmp_ne (tgt := 65) hx hb dX12_votes_54 (by decide) (fun c_54 => ?_) (fun c_54 => by exfalso; simp only [fa_lt, fa_le, fa_eq, li_1] at c_54; omega)
        simp only [fa_lt, fa_le, fa_eq, li_1] at c_54
        refine lv_aload_n hx hb dX12_votes_65 rfl (lv_at hl 0 rfl) ?_
        refine t_calli (va_runV (As := []) (rest := []) ⟨hx, hb, hml, hown, hts⟩ (t_X12_mostVoted l dC dI tys κ B w_3 hw.2.2.2.2 a0 k_a0 H.size) (cwV 0 hts (gUV tw_1548 tw_1550 ts_6_10 tw_13 tw_1551) rfl rfl rfl (by decide +kernel) ⟨(Nat.le_of_ble_eq_true rfl), (Nat.le_of_ble_eq_true rfl)⟩) ⟨cPre.blind, t_recv hw (ci := 12) k_a0 rfl rfl, cPre.use hw.2.1 hw.1 hw.2.2.1 hE⟩ rfl rfl hl.1 rfl (lv_room (Nat.le_of_ble_eq_true rfl)) dX12_votes_66 ⟨(Nat.le_of_ble_eq_true rfl), (Nat.le_of_ble_eq_true rfl)⟩) hw hA (fun _ _ h => h.2.2.1) (fun v66 w_4 H locs hp hw => ?_)
        obtain ⟨l_v66, h_v66, _, hm⟩ := hp
        have hM := hM.trans hm (by decide) (by decide)
        rw [hQ]
        refine W.widen (k := 0) (n := 0) (Nat.le_refl _) (Nat.le_refl _) ?_
        exact W.iret (v := v66) hx hb hr (fun t ht hW => ⟨⟨v66, w_4, rfl, ⟨hw.2.2.2.2, hM⟩, by rw [ht]; exact hw.2.1, va_K.moved hW.alike hw.1, hw.2.2.1⟩, hw.2.2.2.1.F ht⟩) hw.2.2.2.1.2.2 dX12_votes_69
      · simp only [fa_lt, fa_le, fa_eq, li_2] at c_21
        refine lv_aload_n hx hb dX12_votes_24 rfl (lv_at hl 0 rfl) ?_
        refine lv_iload_n hx hb dX12_votes_25 rfl (lv_at hl 1 rfl) ?_
        refine t_calli (va_runV (As := [.int a1]) (rest := []) ⟨hx, hb, hml, hown, hts⟩ (t_X12_isBoy l dC dI tys κ B w_2 hw.2.2.2.2 a0 k_a0 a1 H.size) (cwV 1 hts (gUV tw_1448 tw_1450 ts_5_7 tw_13 tw_1451) rfl rfl rfl (by decide +kernel) ⟨(Nat.le_of_ble_eq_true rfl), (Nat.le_of_ble_eq_true rfl)⟩) ⟨cPre.blind, t_recv hw (ci := 12) k_a0 rfl rfl, cPre.use hw.2.1 hw.1 hw.2.2.1 hE⟩ rfl rfl hl.1 rfl (lv_room (Nat.le_of_ble_eq_true rfl)) dX12_votes_26 ⟨(Nat.le_of_ble_eq_true rfl), (Nat.le_of_ble_eq_true rfl)⟩) hw hA (fun _ _ h => h.2.2.1) (fun v26 w_5 H locs hp hw => ?_)
        obtain ⟨l_v26, h_v26, _, hm, x_v26_0⟩ := hp
        have hM := hM.trans hm (by decide) (by decide)
        refine lv_if_ne (tgt := 35) hx hb dX12_votes_29 (by decide) (fun c_29 => ?_) (fun c_29 => ?_)
        · simp only [fa_lt, fa_le, fa_eq, li_0] at c_29
          refine lv_aload_n hx hb dX12_votes_35 rfl (lv_at hl 0 rfl) ?_
          refine t_callv (va_runV (As := []) (rest := []) ⟨hx, hb, hml, hown, hts⟩ (t_X12_fillsVotes l dC dI tys κ B w_5 hw.2.2.2.2 a0 k_a0 H.size) (cwV 0 hts (gUV tw_1509 tw_1511 ts_6_1 tw_13 tw_1512) rfl rfl rfl (by decide +kernel) ⟨(Nat.le_of_ble_eq_true rfl), (Nat.le_of_ble_eq_true rfl)⟩) ⟨cPre.blind, t_recv hw (ci := 12) k_a0 rfl rfl, cPre.use hw.2.1 hw.1 hw.2.2.1 hE⟩ rfl rfl hl.1 rfl (lv_room (Nat.le_of_ble_eq_true rfl)) dX12_votes_36 ⟨(Nat.le_of_ble_eq_true rfl), (Nat.le_of_ble_eq_true rfl)⟩) hw hA (fun _ h => h.1) (fun w_6 H locs hp hw => ?_)
          obtain ⟨_, hm⟩ := hp
          have hM := hM.trans hm (by decide) (by decide)
          refine lv_iload_n hx hb dX12_votes_39 rfl (lv_at hl 2 rfl) ?_
          refine lv_if_ne (tgt := 52) hx hb dX12_votes_40 (by decide) (fun c_40 => ?_) (fun c_40 => ?_)
          · simp only [fa_lt, fa_le, fa_eq, li_0] at c_40
            refine lv_iload_n hx hb dX12_votes_52 rfl (lv_at hl 2 rfl) ?_
            refine lv_iconst (v := 1) hx hb dX12_votes_53 (by decide) ?_
            refine lv_icmp_ne (tgt := 65) hx hb dX12_votes_54 (by decide) (fun c_54 => by exfalso; simp only [fa_lt, fa_le, fa_eq, li_1] at c_54; omega) (fun c_54 => ?_)
            simp only [fa_lt, fa_le, fa_eq, li_1] at c_54
            refine lv_aload_n hx hb dX12_votes_57 rfl (lv_at hl 0 rfl) ?_
            refine lv_iload_n hx hb dX12_votes_58 rfl (lv_at hl 1 rfl) ?_
            refine t_calli (va_runV (As := [.int a1]) (rest := []) ⟨hx, hb, hml, hown, hts⟩ (t_X12_votesOf l dC dI tys κ B w_6 hw.2.2.2.2 a0 k_a0 a1 (by omega) (by omega) H.size) (cwV 1 hts (gUV tw_1552 tw_1554 ts_6_11 tw_13 tw_1555) rfl rfl rfl (by decide +kernel) ⟨(Nat.le_of_ble_eq_true rfl), (Nat.le_of_ble_eq_true rfl)⟩) ⟨cPre.blind, t_recv hw (ci := 12) k_a0 rfl rfl, cPre.use hw.2.1 hw.1 hw.2.2.1 hE⟩ rfl rfl hl.1 rfl (lv_room (Nat.le_of_ble_eq_true rfl)) dX12_votes_59 ⟨(Nat.le_of_ble_eq_true rfl), (Nat.le_of_ble_eq_true rfl)⟩) hw hA (fun _ _ h => h.1) (fun v59 w_7 H locs hp hw => ?_)
            obtain ⟨_, hm⟩ := hp
            have l_v59 := i32_lo v59
            have h_v59 := i32_hi v59
            have hM := hM.trans hm (by decide) (by decide)
            refine lv_goto (tgt := 69) hx hb dX12_votes_62 (by decide) ?_
            rw [hQ]
            refine W.widen (k := 0) (n := 0) (Nat.le_refl _) (Nat.le_refl _) ?_
            exact W.iret (v := v59) hx hb hr (fun t ht hW => ⟨⟨v59, w_7, rfl, ⟨hw.2.2.2.2, hM⟩, by rw [ht]; exact hw.2.1, va_K.moved hW.alike hw.1, hw.2.2.1⟩, hw.2.2.2.1.F ht⟩) hw.2.2.2.1.2.2 dX12_votes_69
          · simp only [fa_lt, fa_le, fa_eq, li_0] at c_40
            refine lv_aload_n hx hb dX12_votes_43 rfl (lv_at hl 0 rfl) ?_
            refine t_getr (k1 := 64) (ci := 12) (C := RX12) (T := TX12) (N := 38) hx hb hts iX12 hown hw k_a0 rfl rfl rfl 23 (by decide) (hts _ tw_1148) (fun _ h9 => h9) dX12_votes_44 rfl (fun v44 k_v44 f_a0_X12_23 => ?_)
            refine lv_iload_n hx hb dX12_votes_47 rfl (lv_at hl 1 rfl) ?_
            refine t_iald hx hb hw k_v44 rfl rfl (by omega) (show a1.toInt < 6 by omega) dX12_votes_48 (fun v48 r_v48 s_v48 q_v48 => ?_)
            have l_v48 := i32_lo v48
            have h_v48 := i32_hi v48
            refine lv_goto (tgt := 69) hx hb dX12_votes_49 (by decide) ?_
            rw [hQ]
            refine W.widen (k := 0) (n := 0) (Nat.le_refl _) (Nat.le_refl _) ?_
            exact W.iret (v := v48) hx hb hr (fun t ht hW => ⟨⟨v48, w_6, rfl, ⟨hw.2.2.2.2, hM⟩, by rw [ht]; exact hw.2.1, va_K.moved hW.alike hw.1, hw.2.2.1⟩, hw.2.2.2.1.F ht⟩) hw.2.2.2.1.2.2 dX12_votes_69
        · simp only [fa_lt, fa_le, fa_eq, li_0] at c_29
          refine lv_bipush (v := (-2)) hx hb dX12_votes_32 (by decide) ?_
          rw [hQ]
          refine W.widen (k := 0) (n := 0) (Nat.le_refl _) (Nat.le_refl _) ?_
          exact W.iret (v := (-2)) hx hb hr (fun t ht hW => ⟨⟨(-2), w_5, rfl, ⟨hw.2.2.2.2, hM⟩, by rw [ht]; exact hw.2.1, va_K.moved hW.alike hw.1, hw.2.2.1⟩, hw.2.2.2.1.F ht⟩) hw.2.2.2.1.2.2 dX12_votes_34
set_option maxHeartbeats 4000000 in
set_option maxRecDepth 100000 in
theorem t_X12_winOver (l : Launch) (dC : Nat → ClassId) (dI : Nat → Nat → Nat) (tys : List (ClassId × FieldType)) (κ : tK) (B : Nat) (ws : va_W) (hT : Ty κ tys B ws) (a0 : Nat) (k_a0 : κ a0 = some 12) (a1 : Int32) (a2 : Int32) (sz : Nat) : Met l yX12_winOver (ws_u yX12_winOver cX12_winOver 5 (some .int)) ({ frames := 18, cells := 0, slots := 0, locals := 547 }) (va_Pc [.ref a0, .int a1, .int a2] (cPre (dC, dI) tys ws sz)) (va_Qi (fun (r : Int32) (w : va_W) => Ty κ tys B w ∧ Sm [(12, 18)] [61, 62, 64] κ ws w) (fun w t => cPost (dC, dI) tys w (va_A ws sz) t) (va_A ws sz)) 0 0 (va_A ws sz) := by
  refine Met.ofW (cc := cX12_winOver) (maxL := 5) (ret := (some .int)) (by decide) rfl ?_
  intro p e s m args below meth c s₁ B0 hml hv
  obtain ⟨rfl, hsz, hP, hK, hD0, hE⟩ := hv
  have hx := B0.exec
  have hb := B0.bytes
  have hr := B0.returns
  have hts0 := atoms_spec (ws := ws_u yX12_winOver cX12_winOver 5 (some .int)) B0.pre
  have hts : ∀ w ∈ gT, w.before _ s = true := fun w h => hts0 w (List.mem_cons_of_mem _ h)
  have hown : s.vm.findClass RX12 = some m.cls := findClass_of_methodNamed B0.named
  have hlocks := B0.notSynchronized
  subst hsz
  have hD := hD0.self (sz := s.heap.size)
  generalize hAe : va_A ws s.heap.size = A at hD ⊢
  have hA : ∀ q : Nat, s.heap.size ≤ q → A q := fun q h => by rw [← hAe]; exact Or.inr h
  have hw : tW (dC, dI) tys κ B A s ws s.heap [] := ⟨hK, hP, hD, va_S.rf, hT⟩
  have hM : Sm [(12, 18)] [61, 62, 64] κ ws ws := Sm.rf
  clear hP hK hD hD0 hts0
  have l_a1 := i32_lo a1
  have h_a1 := i32_hi a1
  have l_a2 := i32_lo a2
  have h_a2 := i32_hi a2
  have hl := lv_entry ([.ref a0, .int a1, .int a2]) (n := 5) (Nat.le_of_ble_eq_true rfl)
  rw [lg_entry_eq]
  generalize (lg_sl ([.ref a0, .int a1, .int a2]) ++ List.replicate (5 - (lg_sl ([.ref a0, .int a1, .int a2])).length) Slot.unset).toArray = ls at hl ⊢
  have hl : lv_has ls 5 [(0, .ref a0), (1, .int a1), (2, .int a2)] := hl
  refine t_start (fun QQ hQ => ?_)
  refine lv_aload_n hx hb dX12_winOver_0 rfl (lv_at hl 0 rfl) ?_
  refine lv_iload_n hx hb dX12_winOver_1 rfl (lv_at hl 1 rfl) ?_
  refine t_calli (va_runV (As := [.int a1]) (rest := []) ⟨hx, hb, hml, hown, hts⟩ (t_X12_isSound l dC dI tys κ B ws hw.2.2.2.2 a0 k_a0 a1 s.heap.size) (cwV 1 hts (gUV tw_1517 tw_1519 ts_6_3 tw_13 tw_1520) rfl rfl rfl (by decide +kernel) ⟨(Nat.le_of_ble_eq_true rfl), (Nat.le_of_ble_eq_true rfl)⟩) ⟨cPre.blind, t_recv hw (ci := 12) k_a0 rfl rfl, cPre.use hw.2.1 hw.1 hw.2.2.1 hE⟩ rfl rfl hl.1 rfl (lv_room (Nat.le_of_ble_eq_true rfl)) dX12_winOver_2 ⟨(Nat.le_of_ble_eq_true rfl), (Nat.le_of_ble_eq_true rfl)⟩) hw hA (fun _ _ h => h.2.2.1) (fun v2 w_1 H locs hp hw => ?_)
  obtain ⟨l_v2, h_v2, _, hm, x_v2_0⟩ := hp
  have hM := hM.trans hm (by decide) (by decide)
  refine lv_if_eq (tgt := 18) hx hb dX12_winOver_5 (by decide) (fun c_5 => ?_) (fun c_5 => ?_)
  · simp only [fa_lt, fa_le, fa_eq, li_0] at c_5
    refine lv_iconst (v := (-1)) hx hb dX12_winOver_18 (by decide) ?_
    rw [hQ]
    refine W.widen (k := 0) (n := 0) (Nat.le_refl _) (Nat.le_refl _) ?_
    exact W.iret (v := (-1)) hx hb hr (fun t ht hW => ⟨⟨(-1), w_1, rfl, ⟨hw.2.2.2.2, hM⟩, by rw [ht]; exact hw.2.1, va_K.moved hW.alike hw.1, hw.2.2.1⟩, hw.2.2.2.1.F ht⟩) hw.2.2.2.1.2.2 dX12_winOver_19
  · simp only [fa_lt, fa_le, fa_eq, li_0] at c_5
    refine lv_iload_n hx hb dX12_winOver_8 rfl (lv_at hl 2 rfl) ?_
    refine lv_i2l hx hb dX12_winOver_9 rfl ?_
    refine lv_topl (fun v9 e_v9 => ?_)
    have t_v9 : v9.toInt = a2.toInt := by rw [e_v9, Int32.toInt_toInt64]
    refine lv_lconst (v := 0) hx hb dX12_winOver_10 (by decide) ?_
    obtain ⟨v10, e_v10⟩ : ∃ y : Int64, y = 0 := ⟨_, rfl⟩
    refine W.eq (g2 := F0 m 11 ls [.long v10, .long v9]) (by rw [e_v10]) ?_
    have t_v10 : v10.toInt = 0 := by rw [e_v10]; decide
    refine lv_lconst (v := 1) hx hb dX12_winOver_11 (by decide) ?_
    obtain ⟨v11, e_v11⟩ : ∃ y : Int64, y = 1 := ⟨_, rfl⟩
    refine W.eq (g2 := F0 m 12 ls [.long v11, .long v10, .long v9]) (by rw [e_v11]) ?_
    have t_v11 : v11.toInt = 1 := by rw [e_v11]; decide
    refine t_calli (va_runS (As := [.long v9, .long v10, .long v11]) (rest := []) ⟨hx, hb, hml, hown, hts⟩ (t_X12_in l dC dI tys κ B w_1 hw.2.2.2.2 v9 v10 v11 H.size) (va_cwS 3 hts (gUS tw_1316 tw_1317 tw_13 tw_1318) rfl rfl rfl (by decide +kernel) ⟨(Nat.le_of_ble_eq_true rfl), (Nat.le_of_ble_eq_true rfl)⟩) ⟨cPre.blind, cPre.use hw.2.1 hw.1 hw.2.2.1 hE⟩ rfl rfl hl.1 rfl (lv_room (Nat.le_of_ble_eq_true rfl)) dX12_winOver_12 ⟨(Nat.le_of_ble_eq_true rfl), (Nat.le_of_ble_eq_true rfl)⟩) hw hA (fun _ _ h => h.2.2.1) (fun v12 w_2 H locs hp hw => ?_)
    obtain ⟨l_v12, h_v12, _, hm, x_v12_0⟩ := hp
    have hM := hM.trans hm (by decide) (by decide)
    refine lv_if_ne (tgt := 20) hx hb dX12_winOver_15 (by decide) (fun c_15 => ?_) (fun c_15 => ?_)
    · simp only [fa_lt, fa_le, fa_eq, li_0] at c_15
      refine lv_iconst (v := (-1)) hx hb dX12_winOver_20 (by decide) ?_
      refine lv_istore_n (lv' := [(3, .int (-1)), (0, .ref a0), (1, .int a1), (2, .int a2)]) hx hb dX12_winOver_21 rfl hl (by decide) rfl (fun ls hl => ?_)
      refine lv_iconst (v := 0) hx hb dX12_winOver_22 (by decide) ?_
      refine lv_istore (lv' := [(4, .int 0), (3, .int (-1)), (0, .ref a0), (1, .int a1), (2, .int a2)]) hx hb dX12_winOver_23 hl (by decide) rfl (fun ls hl => ?_)
      have J25 : ∀ (n : Nat) (H : Heap) (locs : List Loc) (ls : Array Slot), (∃ (w25 : va_W) (p25_l3 : Int32) (p25_l4 : Int32), tW (dC, dI) tys κ B A s w25 H locs ∧ Sm [(12, 18)] [61, 62, 64] κ ws w25 ∧ (-1) ≤ p25_l3.toInt ∧ p25_l3.toInt ≤ 64 ∧ 0 ≤ p25_l4.toInt ∧ p25_l4.toInt ≤ 64 ∧ lv_has ls 5 [(0, .ref a0), (1, .int a1), (2, .int a2), (3, .int p25_l3), (4, .int p25_l4)] ∧ (64 - p25_l4.toInt).toNat = n) → W p l e (headSpec (ws_u yX12_winOver cX12_winOver 5 (some .int)) ({ frames := 18, cells := 0, slots := 0, locals := 547 })).room s m ([.ref a0, .int a1, .int a2] : List Value).toArray below meth c H locs 0 0 QQ (F0 m 25 ls []) := by
        refine loopT _ ?_
        intro n_25 H locs ls hI ih_25
        obtain ⟨w25, p25_l3, p25_l4, hw, hM, l_p25_l3, h_p25_l3, l_p25_l4, h_p25_l4, hl, hn_25⟩ := hI
        refine lv_iload hx hb dX12_winOver_25 (lv_at hl 4 rfl) ?_
        refine lv_iconst (v := 1) hx hb dX12_winOver_27 (by decide) ?_
        refine lv_aload_n hx hb dX12_winOver_28 rfl (lv_at hl 0 rfl) ?_
        refine t_getr (k1 := 63) (ci := 12) (C := RX12) (T := TX12) (N := 38) hx hb hts iX12 hown hw k_a0 rfl rfl rfl 20 (by decide) (hts _ tw_1145) (fun _ h9 => h9) dX12_winOver_29 rfl (fun v29 k_v29 f_a0_X12_20 => ?_)
        refine lv_iconst (v := 3) hx hb dX12_winOver_32 (by decide) ?_
        refine t_iald hx hb hw k_v29 rfl rfl (by decide) (by decide) dX12_winOver_33 (fun v33 r_v33 s_v33 f_v29_M_said_3 => ?_)
        have l_v33 : 0 ≤ v33.toInt := by rw [iv_63_3] at r_v33; exact r_v33
        have h_v33 : v33.toInt ≤ 6 := by rw [iv_63_3] at s_v33; exact s_v33
        refine lv_ishl hx hb dX12_winOver_34 ?_
        refine lv_topi (fun v34 e_v34 => ?_)
        have ⟨l_v34, h_v34⟩ := sh_i e_v34 (by omega) (by omega)
        refine lv_icmp_ge (tgt := 73) hx hb dX12_winOver_35 (by decide) (fun c_35 => ?_) (fun c_35 => ?_)
        · simp only [fa_lt, fa_le, fa_eq] at c_35
          refine lv_iload_n hx hb dX12_winOver_73 rfl (lv_at hl 2 rfl) ?_
          refine lv_if_ne (tgt := 84) hx hb dX12_winOver_74 (by decide) (fun c_74 => ?_) (fun c_74 => ?_)
          · simp only [fa_lt, fa_le, fa_eq, li_0] at c_74
            refine lv_iload_n hx hb dX12_winOver_84 rfl (lv_at hl 3 rfl) ?_
            rw [hQ]
            refine W.widen (k := 0) (n := 0) (Nat.le_refl _) (Nat.le_refl _) ?_
            exact W.iret (v := p25_l3) hx hb hr (fun t ht hW => ⟨⟨p25_l3, w25, rfl, ⟨hw.2.2.2.2, hM⟩, by rw [ht]; exact hw.2.1, va_K.moved hW.alike hw.1, hw.2.2.1⟩, hw.2.2.2.1.F ht⟩) hw.2.2.2.1.2.2 dX12_winOver_85
          · simp only [fa_lt, fa_le, fa_eq, li_0] at c_74
            refine lv_iload_n hx hb dX12_winOver_77 rfl (lv_at hl 3 rfl) ?_
            refine t_calli (va_runS (As := [.int p25_l3]) (rest := []) ⟨hx, hb, hml, hown, hts⟩ (t_X12_bits l dC dI tys κ B w25 hw.2.2.2.2 p25_l3 H.size) (va_cwS 1 hts (gUS tw_1634 tw_1635 tw_13 tw_1636) rfl rfl rfl (by decide +kernel) ⟨(Nat.le_of_ble_eq_true rfl), (Nat.le_of_ble_eq_true rfl)⟩) ⟨cPre.blind, cPre.use hw.2.1 hw.1 hw.2.2.1 hE⟩ rfl rfl hl.1 rfl (lv_room (Nat.le_of_ble_eq_true rfl)) dX12_winOver_78 ⟨(Nat.le_of_ble_eq_true rfl), (Nat.le_of_ble_eq_true rfl)⟩) hw hA (fun _ _ h => h.1) (fun v78 w_3 H locs hp hw => ?_)
            obtain ⟨_, hm⟩ := hp
            have l_v78 := i32_lo v78
            have h_v78 := i32_hi v78
            have hM := hM.trans hm (by decide) (by decide)
            have f_a0_X12_20 := hm.1 _ _ _ _ f_a0_X12_20 (by decide)
            have f_v29_M_said_3 := hm.elt k_v29 (by decide) f_v29_M_said_3
            refine lv_goto (tgt := 85) hx hb dX12_winOver_81 (by decide) ?_
            rw [hQ]
            refine W.widen (k := 0) (n := 0) (Nat.le_refl _) (Nat.le_refl _) ?_
            exact W.iret (v := v78) hx hb hr (fun t ht hW => ⟨⟨v78, w_3, rfl, ⟨hw.2.2.2.2, hM⟩, by rw [ht]; exact hw.2.1, va_K.moved hW.alike hw.1, hw.2.2.1⟩, hw.2.2.2.1.F ht⟩) hw.2.2.2.1.2.2 dX12_winOver_85
        · simp only [fa_lt, fa_le, fa_eq] at c_35
          refine lv_iload_n hx hb dX12_winOver_38 rfl (lv_at hl 3 rfl) ?_
          have J67 : ∀ (H : Heap) (locs : List Loc) (ls : Array Slot) (w67 : va_W) (p67_l3 : Int32), tW (dC, dI) tys κ B A s w67 H locs → Sm [(12, 18)] [61, 62, 64] κ ws w67 → (-1) ≤ p67_l3.toInt → p67_l3.toInt ≤ 64 → fld w67 a0 12 20 (.ref v29) → elt w67 v29 (3 : Int32).toInt.toNat v33 → lv_has ls 5 [(0, .ref a0), (1, .int a1), (2, .int a2), (3, .int p67_l3), (4, .int p25_l4)] → W p l e (headSpec (ws_u yX12_winOver cX12_winOver 5 (some .int)) ({ frames := 18, cells := 0, slots := 0, locals := 547 })).room s m ([.ref a0, .int a1, .int a2] : List Value).toArray below meth c H locs 0 0 QQ (F0 m 67 ls []) := by
            intro H locs ls w67 p67_l3 hw hM l_p67_l3 h_p67_l3 f_a0_X12_20 f_v29_M_said_3 hl
            obtain ⟨v67, e_v67⟩ : ∃ y : Int32, y = p25_l4 + 1 := ⟨_, rfl⟩
            refine lv_iinc (v := v67) (lv' := [(4, .int v67), (0, .ref a0), (1, .int a1), (2, .int a2), (3, .int p67_l3)]) hx hb dX12_winOver_67 hl (k := 4) rfl e_v67.symm (by decide) rfl (fun ls hl => ?_)
            have e_v67 : v67.toInt = p25_l4.toInt + 1 := ad_i e_v67 rfl li_1 (by omega) (by omega)
            refine lv_goto (tgt := 25) hx hb dX12_winOver_70 (by decide) ?_
            exact ih_25 _ _ _ _ (by omega) ⟨w67, p67_l3, v67, hw, hM, (by omega), (by omega), (by omega), (by omega), (lv_sub hl [1, 2, 3, 4, 0] rfl), rfl⟩
          have J54 : ∀ (H : Heap) (locs : List Loc) (ls : Array Slot) (w54 : va_W), tW (dC, dI) tys κ B A s w54 H locs → Sm [(12, 18)] [61, 62, 64] κ ws w54 → fld w54 a0 12 20 (.ref v29) → elt w54 v29 (3 : Int32).toInt.toNat v33 → lv_has ls 5 [(0, .ref a0), (1, .int a1), (2, .int a2), (3, .int p25_l3), (4, .int p25_l4)] → W p l e (headSpec (ws_u yX12_winOver cX12_winOver 5 (some .int)) ({ frames := 18, cells := 0, slots := 0, locals := 547 })).room s m ([.ref a0, .int a1, .int a2] : List Value).toArray below meth c H locs 0 0 QQ (F0 m 54 ls []) := by
            intro H locs ls w54 hw hM f_a0_X12_20 f_v29_M_said_3 hl
            refine lv_aload_n hx hb dX12_winOver_54 rfl (lv_at hl 0 rfl) ?_
            refine lv_iload_n hx hb dX12_winOver_55 rfl (lv_at hl 1 rfl) ?_
            refine lv_iload hx hb dX12_winOver_56 (lv_at hl 4 rfl) ?_
            refine t_calli (va_runV (As := [.int a1, .int p25_l4]) (rest := []) ⟨hx, hb, hml, hown, hts⟩ (t_X12_isWonBy l dC dI tys κ B w54 hw.2.2.2.2 a0 k_a0 a1 (by omega) (by omega) p25_l4 (by omega) (by omega) H.size) (cwV 2 hts (gUV tw_1656 tw_1658 ts_7_9 tw_13 tw_1659) rfl rfl rfl (by decide +kernel) ⟨(Nat.le_of_ble_eq_true rfl), (Nat.le_of_ble_eq_true rfl)⟩) ⟨cPre.blind, t_recv hw (ci := 12) k_a0 rfl rfl, cPre.use hw.2.1 hw.1 hw.2.2.1 hE⟩ rfl rfl hl.1 rfl (lv_room (Nat.le_of_ble_eq_true rfl)) dX12_winOver_58 ⟨(Nat.le_of_ble_eq_true rfl), (Nat.le_of_ble_eq_true rfl)⟩) hw hA (fun _ _ h => h.2.2.1) (fun v58 w_4 H locs hp hw => ?_)
            obtain ⟨l_v58, h_v58, _, hm⟩ := hp
            have hM := hM.trans hm (by decide) (by decide)
            have f_a0_X12_20 := hm.1 _ _ _ _ f_a0_X12_20 (by decide)
            have f_v29_M_said_3 := hm.elt k_v29 (by decide) f_v29_M_said_3
            refine lv_if_eq (tgt := 67) hx hb dX12_winOver_61 (by decide) (fun c_61 => ?_) (fun c_61 => ?_)
            · simp only [fa_lt, fa_le, fa_eq, li_0] at c_61
              exact J67 _ _ _ w_4 p25_l3 hw hM (by omega) (by omega) f_a0_X12_20 f_v29_M_said_3 (lv_sub hl [0, 1, 2, 3, 4] rfl)
            · simp only [fa_lt, fa_le, fa_eq, li_0] at c_61
              refine lv_iload hx hb dX12_winOver_64 (lv_at hl 4 rfl) ?_
              refine lv_istore_n (lv' := [(3, .int p25_l4), (0, .ref a0), (1, .int a1), (2, .int a2), (4, .int p25_l4)]) hx hb dX12_winOver_66 rfl hl (by decide) rfl (fun ls hl => ?_)
              exact J67 _ _ _ w_4 p25_l4 hw hM (by omega) (by omega) f_a0_X12_20 f_v29_M_said_3 (lv_sub hl [1, 2, 3, 0, 4] rfl)
          refine lv_if_lt (tgt := 54) hx hb dX12_winOver_39 (by decide) (fun c_39 => ?_) (fun c_39 => ?_)
          · simp only [fa_lt, fa_le, fa_eq, li_0] at c_39
            exact J54 _ _ _ w25 hw hM f_a0_X12_20 f_v29_M_said_3 (lv_sub hl [0, 1, 2, 3, 4] rfl)
          · simp only [fa_lt, fa_le, fa_eq, li_0] at c_39
            refine lv_iload hx hb dX12_winOver_42 (lv_at hl 4 rfl) ?_
            refine t_calli (va_runS (As := [.int p25_l4]) (rest := []) ⟨hx, hb, hml, hown, hts⟩ (t_X12_bits l dC dI tys κ B w25 hw.2.2.2.2 p25_l4 H.size) (va_cwS 1 hts (gUS tw_1634 tw_1635 tw_13 tw_1636) rfl rfl rfl (by decide +kernel) ⟨(Nat.le_of_ble_eq_true rfl), (Nat.le_of_ble_eq_true rfl)⟩) ⟨cPre.blind, cPre.use hw.2.1 hw.1 hw.2.2.1 hE⟩ rfl rfl hl.1 rfl (lv_room (Nat.le_of_ble_eq_true rfl)) dX12_winOver_44 ⟨(Nat.le_of_ble_eq_true rfl), (Nat.le_of_ble_eq_true rfl)⟩) hw hA (fun _ _ h => h.1) (fun v44 w_5 H locs hp hw => ?_)
            obtain ⟨_, hm⟩ := hp
            have l_v44 := i32_lo v44
            have h_v44 := i32_hi v44
            have hM := hM.trans hm (by decide) (by decide)
            have f_a0_X12_20 := hm.1 _ _ _ _ f_a0_X12_20 (by decide)
            have f_v29_M_said_3 := hm.elt k_v29 (by decide) f_v29_M_said_3
            refine lv_iload_n hx hb dX12_winOver_47 rfl (lv_at hl 3 rfl) ?_
            refine t_calli (va_runS (As := [.int p25_l3]) (rest := [.int v44]) ⟨hx, hb, hml, hown, hts⟩ (t_X12_bits l dC dI tys κ B w_5 hw.2.2.2.2 p25_l3 H.size) (va_cwS 1 hts (gUS tw_1634 tw_1635 tw_13 tw_1636) rfl rfl rfl (by decide +kernel) ⟨(Nat.le_of_ble_eq_true rfl), (Nat.le_of_ble_eq_true rfl)⟩) ⟨cPre.blind, cPre.use hw.2.1 hw.1 hw.2.2.1 hE⟩ rfl rfl hl.1 rfl (lv_room (Nat.le_of_ble_eq_true rfl)) dX12_winOver_48 ⟨(Nat.le_of_ble_eq_true rfl), (Nat.le_of_ble_eq_true rfl)⟩) hw hA (fun _ _ h => h.1) (fun v48 w_6 H locs hp hw => ?_)
            obtain ⟨_, hm⟩ := hp
            have l_v48 := i32_lo v48
            have h_v48 := i32_hi v48
            have hM := hM.trans hm (by decide) (by decide)
            have f_a0_X12_20 := hm.1 _ _ _ _ f_a0_X12_20 (by decide)
            have f_v29_M_said_3 := hm.elt k_v29 (by decide) f_v29_M_said_3
            refine lv_icmp_ge (tgt := 67) hx hb dX12_winOver_51 (by decide) (fun c_51 => ?_) (fun c_51 => ?_)
            · simp only [fa_lt, fa_le, fa_eq] at c_51
              exact J67 _ _ _ w_6 p25_l3 hw hM (by omega) (by omega) f_a0_X12_20 f_v29_M_said_3 (lv_sub hl [0, 1, 2, 3, 4] rfl)
            · simp only [fa_lt, fa_le, fa_eq] at c_51
              exact J54 _ _ _ w_6 hw hM f_a0_X12_20 f_v29_M_said_3 (lv_sub hl [0, 1, 2, 3, 4] rfl)
      exact J25 _ _ _ _ ⟨w_2, (-1), 0, hw, hM, (by decide), (by decide), (by decide), (by decide), (lv_sub hl [2, 3, 4, 1, 0] rfl), rfl⟩
    · simp only [fa_lt, fa_le, fa_eq, li_0] at c_15
      refine lv_iconst (v := (-1)) hx hb dX12_winOver_18 (by decide) ?_
      rw [hQ]
      refine W.widen (k := 0) (n := 0) (Nat.le_refl _) (Nat.le_refl _) ?_
      exact W.iret (v := (-1)) hx hb hr (fun t ht hW => ⟨⟨(-1), w_2, rfl, ⟨hw.2.2.2.2, hM⟩, by rw [ht]; exact hw.2.1, va_K.moved hW.alike hw.1, hw.2.2.1⟩, hw.2.2.2.1.F ht⟩) hw.2.2.2.1.2.2 dX12_winOver_19
