theorem ts_3_0 : Cond.selects "BoyBishopModel" ⟨"BoyBishopModel", "four", "(I)V"⟩ ⟨"BoyBishopModel", "four", "(I)V"⟩ ∈ gT := gT_in (List.mem_append_left _ (List.mem_map.mpr ⟨(⟨"BoyBishopModel", "four", "(I)V"⟩, 38), (List.mem_append_right _ (List.mem_append_right _ (List.mem_append_right _ (List.mem_append_left _ (List.mem_of_getElem? (i := 0) rfl))))), rfl⟩)) rfl
theorem ts_5_6 : Cond.selects "BoyBishopModel" ⟨"BoyBishopModel", "isRule", "(I)Z"⟩ ⟨"BoyBishopModel", "isRule", "(I)Z"⟩ ∈ gT := gT_in (List.mem_append_left _ (List.mem_map.mpr ⟨(⟨"BoyBishopModel", "isRule", "(I)Z"⟩, 38), (List.mem_append_right _ (List.mem_append_right _ (List.mem_append_right _ (List.mem_append_right _ (List.mem_append_right _ (List.mem_append_left _ (List.mem_of_getElem? (i := 6) rfl))))))), rfl⟩)) rfl
theorem ts_7_11 : Cond.selects "BoyBishopModel" ⟨"BoyBishopModel", "gainBy", "(III)I"⟩ ⟨"BoyBishopModel", "gainBy", "(III)I"⟩ ∈ gT := gT_in (List.mem_append_left _ (List.mem_map.mpr ⟨(⟨"BoyBishopModel", "gainBy", "(III)I"⟩, 38), (List.mem_append_right _ (List.mem_append_right _ (List.mem_append_right _ (List.mem_append_right _ (List.mem_append_right _ (List.mem_append_right _ (List.mem_append_right _ (List.mem_append_left _ (List.mem_of_getElem? (i := 11) rfl))))))))), rfl⟩)) rfl
theorem ts_7_13 : Cond.selects "BoyBishopModel" ⟨"BoyBishopModel", "goneTill", "(II)I"⟩ ⟨"BoyBishopModel", "goneTill", "(II)I"⟩ ∈ gT := gT_in (List.mem_append_left _ (List.mem_map.mpr ⟨(⟨"BoyBishopModel", "goneTill", "(II)I"⟩, 38), (List.mem_append_right _ (List.mem_append_right _ (List.mem_append_right _ (List.mem_append_right _ (List.mem_append_right _ (List.mem_append_right _ (List.mem_append_right _ (List.mem_append_left _ (List.mem_of_getElem? (i := 13) rfl))))))))), rfl⟩)) rfl
theorem tw_1154 : (Jvm.Cond.fieldLink "BoyBishopModel" (58 : Nat) "BoyBishopModel" "chosenBy" "[I") ∈ gT := gT_in (List.mem_append_right _ (List.mem_append_right _ (List.mem_append_right _ (List.mem_append_right _ (List.mem_append_right _ (List.mem_append_left _ (List.mem_of_getElem? (i := 194) rfl))))))) rfl
theorem tw_1155 : (Jvm.Cond.fieldLink "BoyBishopModel" (61 : Nat) "BoyBishopModel" "gone" "[I") ∈ gT := gT_in (List.mem_append_right _ (List.mem_append_right _ (List.mem_append_right _ (List.mem_append_right _ (List.mem_append_right _ (List.mem_append_left _ (List.mem_of_getElem? (i := 195) rfl))))))) rfl
theorem tw_1244 : (Jvm.Cond.methodLink "BoyBishopModel" (86 : Nat) ({ cls := "BoyBishopModel", name := "four", desc := "(I)V" } : Jvm.MethodName)) ∈ gT := gT_in (List.mem_append_right _ (List.mem_append_right _ (List.mem_append_right _ (List.mem_append_right _ (List.mem_append_right _ (List.mem_append_right _ (List.mem_append_left _ (List.mem_of_getElem? (i := 44) rfl)))))))) rfl
theorem tw_1246 : (Jvm.Cond.instanceMethod ({ cls := "BoyBishopModel", name := "four", desc := "(I)V" } : Jvm.MethodName)) ∈ gT := gT_in (List.mem_append_right _ (List.mem_append_right _ (List.mem_append_right _ (List.mem_append_right _ (List.mem_append_right _ (List.mem_append_right _ (List.mem_append_left _ (List.mem_of_getElem? (i := 46) rfl)))))))) rfl
theorem tw_1247 : (Jvm.Cond.code ({ cls := "BoyBishopModel", name := "four", desc := "(I)V" } : Jvm.MethodName) prog_14_method_6_code (3 : Nat) (Option.none : Option Jvm.ClassFile.FieldType)) ∈ gT := gT_in (List.mem_append_right _ (List.mem_append_right _ (List.mem_append_right _ (List.mem_append_right _ (List.mem_append_right _ (List.mem_append_right _ (List.mem_append_left _ (List.mem_of_getElem? (i := 47) rfl)))))))) rfl
theorem tw_1440 : (Jvm.Cond.methodLink "BoyBishopModel" (320 : Nat) ({ cls := "BoyBishopModel", name := "isRule", desc := "(I)Z" } : Jvm.MethodName)) ∈ gT := gT_in (List.mem_append_right _ (List.mem_append_right _ (List.mem_append_right _ (List.mem_append_right _ (List.mem_append_right _ (List.mem_append_right _ (List.mem_append_right _ (List.mem_append_left _ (List.mem_of_getElem? (i := 0) rfl))))))))) rfl
theorem tw_1442 : (Jvm.Cond.instanceMethod ({ cls := "BoyBishopModel", name := "isRule", desc := "(I)Z" } : Jvm.MethodName)) ∈ gT := gT_in (List.mem_append_right _ (List.mem_append_right _ (List.mem_append_right _ (List.mem_append_right _ (List.mem_append_right _ (List.mem_append_right _ (List.mem_append_right _ (List.mem_append_left _ (List.mem_of_getElem? (i := 2) rfl))))))))) rfl
theorem tw_1443 : (Jvm.Cond.code ({ cls := "BoyBishopModel", name := "isRule", desc := "(I)Z" } : Jvm.MethodName) prog_14_method_46_code (2 : Nat) (Option.some Jvm.ClassFile.FieldType.boolean)) ∈ gT := gT_in (List.mem_append_right _ (List.mem_append_right _ (List.mem_append_right _ (List.mem_append_right _ (List.mem_append_right _ (List.mem_append_right _ (List.mem_append_right _ (List.mem_append_left _ (List.mem_of_getElem? (i := 3) rfl))))))))) rfl
theorem tw_1668 : (Jvm.Cond.methodLink "BoyBishopModel" (430 : Nat) ({ cls := "BoyBishopModel", name := "gainBy", desc := "(III)I" } : Jvm.MethodName)) ∈ gT := gT_in (List.mem_append_right _ (List.mem_append_right _ (List.mem_append_right _ (List.mem_append_right _ (List.mem_append_right _ (List.mem_append_right _ (List.mem_append_right _ (List.mem_append_left _ (List.mem_of_getElem? (i := 228) rfl))))))))) rfl
theorem tw_1670 : (Jvm.Cond.instanceMethod ({ cls := "BoyBishopModel", name := "gainBy", desc := "(III)I" } : Jvm.MethodName)) ∈ gT := gT_in (List.mem_append_right _ (List.mem_append_right _ (List.mem_append_right _ (List.mem_append_right _ (List.mem_append_right _ (List.mem_append_right _ (List.mem_append_right _ (List.mem_append_left _ (List.mem_of_getElem? (i := 230) rfl))))))))) rfl
theorem tw_1671 : (Jvm.Cond.code ({ cls := "BoyBishopModel", name := "gainBy", desc := "(III)I" } : Jvm.MethodName) prog_14_method_102_code (4 : Nat) (Option.some Jvm.ClassFile.FieldType.int)) ∈ gT := gT_in (List.mem_append_right _ (List.mem_append_right _ (List.mem_append_right _ (List.mem_append_right _ (List.mem_append_right _ (List.mem_append_right _ (List.mem_append_right _ (List.mem_append_left _ (List.mem_of_getElem? (i := 231) rfl))))))))) rfl
theorem tw_1680 : (Jvm.Cond.methodLink "BoyBishopModel" (438 : Nat) ({ cls := "BoyBishopModel", name := "goneTill", desc := "(II)I" } : Jvm.MethodName)) ∈ gT := gT_in (List.mem_append_right _ (List.mem_append_right _ (List.mem_append_right _ (List.mem_append_right _ (List.mem_append_right _ (List.mem_append_right _ (List.mem_append_right _ (List.mem_append_right _ (List.mem_of_getElem? (i := 0) rfl))))))))) rfl
theorem tw_1682 : (Jvm.Cond.instanceMethod ({ cls := "BoyBishopModel", name := "goneTill", desc := "(II)I" } : Jvm.MethodName)) ∈ gT := gT_in (List.mem_append_right _ (List.mem_append_right _ (List.mem_append_right _ (List.mem_append_right _ (List.mem_append_right _ (List.mem_append_right _ (List.mem_append_right _ (List.mem_append_right _ (List.mem_of_getElem? (i := 2) rfl))))))))) rfl
theorem tw_1683 : (Jvm.Cond.code ({ cls := "BoyBishopModel", name := "goneTill", desc := "(II)I" } : Jvm.MethodName) prog_14_method_105_code (7 : Nat) (Option.some Jvm.ClassFile.FieldType.int)) ∈ gT := gT_in (List.mem_append_right _ (List.mem_append_right _ (List.mem_append_right _ (List.mem_append_right _ (List.mem_append_right _ (List.mem_append_right _ (List.mem_append_right _ (List.mem_append_right _ (List.mem_of_getElem? (i := 3) rfl))))))))) rfl
theorem dX12_feed_0 : decode cX12_feed 0 = .ok (.aload_n 0, 1) := by decide +kernel
theorem dX12_feed_1 : decode cX12_feed 1 = .ok (.getfield 83, 3) := by decide +kernel
theorem dX12_feed_4 : decode cX12_feed 4 = .ok (.bipush 20, 2) := by decide +kernel
theorem dX12_feed_6 : decode cX12_feed 6 = .ok (.iadd, 1) := by decide +kernel
theorem dX12_feed_7 : decode cX12_feed 7 = .ok (.sipush 400, 3) := by decide +kernel
theorem dX12_feed_10 : decode cX12_feed 10 = .ok (.if_icmp .le 5, 3) := by decide +kernel
theorem dX12_feed_13 : decode cX12_feed 13 = .ok (.iconst (-1), 1) := by decide +kernel
theorem dX12_feed_14 : decode cX12_feed 14 = .ok (.ireturn, 1) := by decide +kernel
theorem dX12_feed_15 : decode cX12_feed 15 = .ok (.aload_n 0, 1) := by decide +kernel
theorem dX12_feed_16 : decode cX12_feed 16 = .ok (.iload_n 1, 1) := by decide +kernel
theorem dX12_feed_17 : decode cX12_feed 17 = .ok (.invokevirtual 86, 3) := by decide +kernel
theorem dX12_feed_20 : decode cX12_feed 20 = .ok (.aload_n 0, 1) := by decide +kernel
theorem dX12_feed_21 : decode cX12_feed 21 = .ok (.iload_n 2, 1) := by decide +kernel
theorem dX12_feed_22 : decode cX12_feed 22 = .ok (.invokevirtual 86, 3) := by decide +kernel
theorem dX12_feed_25 : decode cX12_feed 25 = .ok (.aload_n 0, 1) := by decide +kernel
theorem dX12_feed_26 : decode cX12_feed 26 = .ok (.iload_n 3, 1) := by decide +kernel
theorem dX12_feed_27 : decode cX12_feed 27 = .ok (.invokevirtual 86, 3) := by decide +kernel
theorem dX12_feed_30 : decode cX12_feed 30 = .ok (.aload_n 0, 1) := by decide +kernel
theorem dX12_feed_31 : decode cX12_feed 31 = .ok (.iload 4, 2) := by decide +kernel
theorem dX12_feed_33 : decode cX12_feed 33 = .ok (.invokevirtual 86, 3) := by decide +kernel
theorem dX12_feed_36 : decode cX12_feed 36 = .ok (.aload_n 0, 1) := by decide +kernel
theorem dX12_feed_37 : decode cX12_feed 37 = .ok (.iload 5, 2) := by decide +kernel
theorem dX12_feed_39 : decode cX12_feed 39 = .ok (.invokevirtual 86, 3) := by decide +kernel
theorem dX12_feed_42 : decode cX12_feed 42 = .ok (.aload_n 0, 1) := by decide +kernel
theorem dX12_feed_43 : decode cX12_feed 43 = .ok (.getfield 83, 3) := by decide +kernel
theorem dX12_feed_46 : decode cX12_feed 46 = .ok (.ireturn, 1) := by decide +kernel
theorem dX12_force_0 : decode cX12_force 0 = .ok (.iload_n 1, 1) := by decide +kernel
theorem dX12_force_1 : decode cX12_force 1 = .ok (.iconst (-1), 1) := by decide +kernel
theorem dX12_force_2 : decode cX12_force 2 = .ok (.if_icmp .eq 14, 3) := by decide +kernel
theorem dX12_force_5 : decode cX12_force 5 = .ok (.aload_n 0, 1) := by decide +kernel
theorem dX12_force_6 : decode cX12_force 6 = .ok (.iload_n 1, 1) := by decide +kernel
theorem dX12_force_7 : decode cX12_force 7 = .ok (.invokevirtual 320, 3) := by decide +kernel
theorem dX12_force_10 : decode cX12_force 10 = .ok (.ifCond .ne 6, 3) := by decide +kernel
theorem dX12_force_13 : decode cX12_force 13 = .ok (.bipush (-2), 2) := by decide +kernel
theorem dX12_force_15 : decode cX12_force 15 = .ok (.ireturn, 1) := by decide +kernel
theorem dX12_force_16 : decode cX12_force 16 = .ok (.aload_n 0, 1) := by decide +kernel
theorem dX12_force_17 : decode cX12_force 17 = .ok (.getfield 42, 3) := by decide +kernel
theorem dX12_force_20 : decode cX12_force 20 = .ok (.istore_n 2, 1) := by decide +kernel
theorem dX12_force_21 : decode cX12_force 21 = .ok (.aload_n 0, 1) := by decide +kernel
theorem dX12_force_22 : decode cX12_force 22 = .ok (.iload_n 1, 1) := by decide +kernel
theorem dX12_force_23 : decode cX12_force 23 = .ok (.putfield 42, 3) := by decide +kernel
theorem dX12_force_26 : decode cX12_force 26 = .ok (.iload_n 2, 1) := by decide +kernel
theorem dX12_force_27 : decode cX12_force 27 = .ok (.ireturn, 1) := by decide +kernel
theorem dX12_gainBy_0 : decode cX12_gainBy 0 = .ok (.aload_n 0, 1) := by decide +kernel
theorem dX12_gainBy_1 : decode cX12_gainBy 1 = .ok (.getfield 58, 3) := by decide +kernel
theorem dX12_gainBy_4 : decode cX12_gainBy 4 = .ok (.iload_n 3, 1) := by decide +kernel
theorem dX12_gainBy_5 : decode cX12_gainBy 5 = .ok (.iaload, 1) := by decide +kernel
theorem dX12_gainBy_6 : decode cX12_gainBy 6 = .ok (.iload_n 1, 1) := by decide +kernel
theorem dX12_gainBy_7 : decode cX12_gainBy 7 = .ok (.if_icmp .ne 12, 3) := by decide +kernel
theorem dX12_gainBy_10 : decode cX12_gainBy 10 = .ok (.bipush 20, 2) := by decide +kernel
theorem dX12_gainBy_12 : decode cX12_gainBy 12 = .ok (.iconst 5, 1) := by decide +kernel
theorem dX12_gainBy_13 : decode cX12_gainBy 13 = .ok (.iload_n 2, 1) := by decide +kernel
theorem dX12_gainBy_14 : decode cX12_gainBy 14 = .ok (.imul, 1) := by decide +kernel
theorem dX12_gainBy_15 : decode cX12_gainBy 15 = .ok (.isub, 1) := by decide +kernel
theorem dX12_gainBy_16 : decode cX12_gainBy 16 = .ok (.goto 4, 3) := by decide +kernel
theorem dX12_gainBy_19 : decode cX12_gainBy 19 = .ok (.iconst 0, 1) := by decide +kernel
theorem dX12_gainBy_20 : decode cX12_gainBy 20 = .ok (.ireturn, 1) := by decide +kernel
theorem dX12_give_0 : decode cX12_give 0 = .ok (.aload_n 0, 1) := by decide +kernel
theorem dX12_give_1 : decode cX12_give 1 = .ok (.iload_n 1, 1) := by decide +kernel
theorem dX12_give_2 : decode cX12_give 2 = .ok (.invokevirtual 308, 3) := by decide +kernel
theorem dX12_give_5 : decode cX12_give 5 = .ok (.ifCond .eq 30, 3) := by decide +kernel
theorem dX12_give_8 : decode cX12_give 8 = .ok (.aload_n 0, 1) := by decide +kernel
theorem dX12_give_9 : decode cX12_give 9 = .ok (.iload_n 2, 1) := by decide +kernel
theorem dX12_give_10 : decode cX12_give 10 = .ok (.invokevirtual 361, 3) := by decide +kernel
theorem dX12_give_13 : decode cX12_give 13 = .ok (.ifCond .eq 22, 3) := by decide +kernel
theorem dX12_give_16 : decode cX12_give 16 = .ok (.aload_n 0, 1) := by decide +kernel
theorem dX12_give_17 : decode cX12_give 17 = .ok (.getfield 39, 3) := by decide +kernel
theorem dX12_give_20 : decode cX12_give 20 = .ok (.bipush 11, 2) := by decide +kernel
theorem dX12_give_22 : decode cX12_give 22 = .ok (.iaload, 1) := by decide +kernel
theorem dX12_give_23 : decode cX12_give 23 = .ok (.ifCond .lt 12, 3) := by decide +kernel
theorem dX12_give_26 : decode cX12_give 26 = .ok (.aload_n 0, 1) := by decide +kernel
theorem dX12_give_27 : decode cX12_give 27 = .ok (.iload_n 1, 1) := by decide +kernel
theorem dX12_give_28 : decode cX12_give 28 = .ok (.iconst 1, 1) := by decide +kernel
theorem dX12_give_29 : decode cX12_give 29 = .ok (.invokevirtual 311, 3) := by decide +kernel
theorem dX12_give_32 : decode cX12_give 32 = .ok (.ifCond .ne 5, 3) := by decide +kernel
theorem dX12_give_35 : decode cX12_give 35 = .ok (.iconst (-1), 1) := by decide +kernel
theorem dX12_give_36 : decode cX12_give 36 = .ok (.ireturn, 1) := by decide +kernel
theorem dX12_give_37 : decode cX12_give 37 = .ok (.aload_n 0, 1) := by decide +kernel
theorem dX12_give_38 : decode cX12_give 38 = .ok (.invokevirtual 382, 3) := by decide +kernel
theorem dX12_give_41 : decode cX12_give 41 = .ok (.aload_n 0, 1) := by decide +kernel
theorem dX12_give_42 : decode cX12_give 42 = .ok (.getfield 39, 3) := by decide +kernel
theorem dX12_give_45 : decode cX12_give 45 = .ok (.bipush 40, 2) := by decide +kernel
theorem dX12_give_47 : decode cX12_give 47 = .ok (.iconst 3, 1) := by decide +kernel
theorem dX12_give_48 : decode cX12_give 48 = .ok (.iload_n 1, 1) := by decide +kernel
theorem dX12_give_49 : decode cX12_give 49 = .ok (.imul, 1) := by decide +kernel
theorem dX12_give_50 : decode cX12_give 50 = .ok (.iadd, 1) := by decide +kernel
theorem dX12_give_51 : decode cX12_give 51 = .ok (.iconst 1, 1) := by decide +kernel
theorem dX12_give_52 : decode cX12_give 52 = .ok (.iadd, 1) := by decide +kernel
theorem dX12_give_53 : decode cX12_give 53 = .ok (.iconst 0, 1) := by decide +kernel
theorem dX12_give_54 : decode cX12_give 54 = .ok (.iastore, 1) := by decide +kernel
theorem dX12_give_55 : decode cX12_give 55 = .ok (.aload_n 0, 1) := by decide +kernel
theorem dX12_give_56 : decode cX12_give 56 = .ok (.getfield 39, 3) := by decide +kernel
theorem dX12_give_59 : decode cX12_give 59 = .ok (.bipush 40, 2) := by decide +kernel
theorem dX12_give_61 : decode cX12_give 61 = .ok (.iconst 3, 1) := by decide +kernel
theorem dX12_give_62 : decode cX12_give 62 = .ok (.iload_n 2, 1) := by decide +kernel
theorem dX12_give_63 : decode cX12_give 63 = .ok (.imul, 1) := by decide +kernel
theorem dX12_give_64 : decode cX12_give 64 = .ok (.iadd, 1) := by decide +kernel
theorem dX12_give_65 : decode cX12_give 65 = .ok (.iconst 2, 1) := by decide +kernel
theorem dX12_give_66 : decode cX12_give 66 = .ok (.iadd, 1) := by decide +kernel
theorem dX12_give_67 : decode cX12_give 67 = .ok (.iload_n 1, 1) := by decide +kernel
theorem dX12_give_68 : decode cX12_give 68 = .ok (.iastore, 1) := by decide +kernel
theorem dX12_give_69 : decode cX12_give 69 = .ok (.aload_n 0, 1) := by decide +kernel
theorem dX12_give_70 : decode cX12_give 70 = .ok (.getfield 39, 3) := by decide +kernel
theorem dX12_give_73 : decode cX12_give 73 = .ok (.bipush 110, 2) := by decide +kernel
theorem dX12_give_75 : decode cX12_give 75 = .ok (.iload_n 1, 1) := by decide +kernel
theorem dX12_give_76 : decode cX12_give 76 = .ok (.iadd, 1) := by decide +kernel
theorem dX12_give_77 : decode cX12_give 77 = .ok (.iaload, 1) := by decide +kernel
theorem dX12_give_78 : decode cX12_give 78 = .ok (.ireturn, 1) := by decide +kernel
theorem dX12_goneTill_0 : decode cX12_goneTill 0 = .ok (.iload_n 1, 1) := by decide +kernel
theorem dX12_goneTill_1 : decode cX12_goneTill 1 = .ok (.iconst 1, 1) := by decide +kernel
theorem dX12_goneTill_2 : decode cX12_goneTill 2 = .ok (.iload_n 2, 1) := by decide +kernel
theorem dX12_goneTill_3 : decode cX12_goneTill 3 = .ok (.ishl, 1) := by decide +kernel
theorem dX12_goneTill_4 : decode cX12_goneTill 4 = .ok (.iconst (-1), 1) := by decide +kernel
theorem dX12_goneTill_5 : decode cX12_goneTill 5 = .ok (.ixor, 1) := by decide +kernel
theorem dX12_goneTill_6 : decode cX12_goneTill 6 = .ok (.iand, 1) := by decide +kernel
theorem dX12_goneTill_7 : decode cX12_goneTill 7 = .ok (.istore_n 3, 1) := by decide +kernel
theorem dX12_goneTill_8 : decode cX12_goneTill 8 = .ok (.iload_n 3, 1) := by decide +kernel
theorem dX12_goneTill_9 : decode cX12_goneTill 9 = .ok (.ifCond .ne 12, 3) := by decide +kernel
theorem dX12_goneTill_12 : decode cX12_goneTill 12 = .ok (.aload_n 0, 1) := by decide +kernel
theorem dX12_goneTill_13 : decode cX12_goneTill 13 = .ok (.iconst 0, 1) := by decide +kernel
theorem dX12_goneTill_14 : decode cX12_goneTill 14 = .ok (.iload_n 2, 1) := by decide +kernel
theorem dX12_goneTill_15 : decode cX12_goneTill 15 = .ok (.iconst 1, 1) := by decide +kernel
theorem dX12_goneTill_16 : decode cX12_goneTill 16 = .ok (.iadd, 1) := by decide +kernel
theorem dX12_goneTill_17 : decode cX12_goneTill 17 = .ok (.invokevirtual 317, 3) := by decide +kernel
theorem dX12_goneTill_20 : decode cX12_goneTill 20 = .ok (.ireturn, 1) := by decide +kernel
theorem dX12_goneTill_21 : decode cX12_goneTill 21 = .ok (.sipush 999, 3) := by decide +kernel
theorem dX12_goneTill_24 : decode cX12_goneTill 24 = .ok (.istore 4, 2) := by decide +kernel
theorem dX12_goneTill_26 : decode cX12_goneTill 26 = .ok (.iconst 0, 1) := by decide +kernel
theorem dX12_goneTill_27 : decode cX12_goneTill 27 = .ok (.istore 5, 2) := by decide +kernel
theorem dX12_goneTill_29 : decode cX12_goneTill 29 = .ok (.iload 5, 2) := by decide +kernel
theorem dX12_goneTill_31 : decode cX12_goneTill 31 = .ok (.aload_n 0, 1) := by decide +kernel
theorem dX12_goneTill_32 : decode cX12_goneTill 32 = .ok (.getfield 39, 3) := by decide +kernel
theorem dX12_goneTill_35 : decode cX12_goneTill 35 = .ok (.iconst 5, 1) := by decide +kernel
theorem dX12_goneTill_36 : decode cX12_goneTill 36 = .ok (.iaload, 1) := by decide +kernel
theorem dX12_goneTill_37 : decode cX12_goneTill 37 = .ok (.if_icmp .ge 63, 3) := by decide +kernel
theorem dX12_goneTill_40 : decode cX12_goneTill 40 = .ok (.iload_n 3, 1) := by decide +kernel
theorem dX12_goneTill_41 : decode cX12_goneTill 41 = .ok (.iload 5, 2) := by decide +kernel
theorem dX12_goneTill_43 : decode cX12_goneTill 43 = .ok (.invokestatic 406, 3) := by decide +kernel
theorem dX12_goneTill_46 : decode cX12_goneTill 46 = .ok (.ifCond .ne 6, 3) := by decide +kernel
theorem dX12_goneTill_49 : decode cX12_goneTill 49 = .ok (.goto 45, 3) := by decide +kernel
theorem dX12_goneTill_52 : decode cX12_goneTill 52 = .ok (.aload_n 0, 1) := by decide +kernel
theorem dX12_goneTill_53 : decode cX12_goneTill 53 = .ok (.getfield 61, 3) := by decide +kernel
theorem dX12_goneTill_56 : decode cX12_goneTill 56 = .ok (.bipush 6, 2) := by decide +kernel
theorem dX12_goneTill_58 : decode cX12_goneTill 58 = .ok (.iload_n 3, 1) := by decide +kernel
theorem dX12_goneTill_59 : decode cX12_goneTill 59 = .ok (.imul, 1) := by decide +kernel
theorem dX12_goneTill_60 : decode cX12_goneTill 60 = .ok (.iload 5, 2) := by decide +kernel
theorem dX12_goneTill_62 : decode cX12_goneTill 62 = .ok (.iadd, 1) := by decide +kernel
theorem dX12_goneTill_63 : decode cX12_goneTill 63 = .ok (.iaload, 1) := by decide +kernel
theorem dX12_goneTill_64 : decode cX12_goneTill 64 = .ok (.aload_n 0, 1) := by decide +kernel
theorem dX12_goneTill_65 : decode cX12_goneTill 65 = .ok (.iload 5, 2) := by decide +kernel
theorem dX12_goneTill_67 : decode cX12_goneTill 67 = .ok (.iconst 1, 1) := by decide +kernel
theorem dX12_goneTill_68 : decode cX12_goneTill 68 = .ok (.iadd, 1) := by decide +kernel
theorem dX12_goneTill_69 : decode cX12_goneTill 69 = .ok (.iload_n 2, 1) := by decide +kernel
theorem dX12_goneTill_70 : decode cX12_goneTill 70 = .ok (.iconst 1, 1) := by decide +kernel
theorem dX12_goneTill_71 : decode cX12_goneTill 71 = .ok (.iadd, 1) := by decide +kernel
theorem dX12_goneTill_72 : decode cX12_goneTill 72 = .ok (.invokevirtual 317, 3) := by decide +kernel
theorem dX12_goneTill_75 : decode cX12_goneTill 75 = .ok (.iadd, 1) := by decide +kernel
theorem dX12_goneTill_76 : decode cX12_goneTill 76 = .ok (.istore 6, 2) := by decide +kernel
theorem dX12_goneTill_78 : decode cX12_goneTill 78 = .ok (.iload 6, 2) := by decide +kernel
theorem dX12_goneTill_80 : decode cX12_goneTill 80 = .ok (.iload 4, 2) := by decide +kernel
theorem dX12_goneTill_82 : decode cX12_goneTill 82 = .ok (.if_icmp .ge 8, 3) := by decide +kernel
theorem dX12_goneTill_85 : decode cX12_goneTill 85 = .ok (.iload 6, 2) := by decide +kernel
theorem dX12_goneTill_87 : decode cX12_goneTill 87 = .ok (.goto 5, 3) := by decide +kernel
theorem dX12_goneTill_90 : decode cX12_goneTill 90 = .ok (.iload 4, 2) := by decide +kernel
theorem dX12_goneTill_92 : decode cX12_goneTill 92 = .ok (.istore 4, 2) := by decide +kernel
theorem dX12_goneTill_94 : decode cX12_goneTill 94 = .ok (.iinc 5 1, 3) := by decide +kernel
theorem dX12_goneTill_97 : decode cX12_goneTill 97 = .ok (.goto (-68), 3) := by decide +kernel
theorem dX12_goneTill_100 : decode cX12_goneTill 100 = .ok (.iload 4, 2) := by decide +kernel
theorem dX12_goneTill_102 : decode cX12_goneTill 102 = .ok (.ireturn, 1) := by decide +kernel
theorem dX12_hoursOf_0 : decode cX12_hoursOf 0 = .ok (.iload_n 1, 1) := by decide +kernel
theorem dX12_hoursOf_1 : decode cX12_hoursOf 1 = .ok (.ifCond .ne 7, 3) := by decide +kernel
theorem dX12_hoursOf_4 : decode cX12_hoursOf 4 = .ok (.iconst 0, 1) := by decide +kernel
theorem dX12_hoursOf_5 : decode cX12_hoursOf 5 = .ok (.goto 6, 3) := by decide +kernel
theorem dX12_hoursOf_8 : decode cX12_hoursOf 8 = .ok (.sipush 999, 3) := by decide +kernel
theorem dX12_hoursOf_11 : decode cX12_hoursOf 11 = .ok (.istore_n 2, 1) := by decide +kernel
theorem dX12_hoursOf_12 : decode cX12_hoursOf 12 = .ok (.iconst 0, 1) := by decide +kernel
theorem dX12_hoursOf_13 : decode cX12_hoursOf 13 = .ok (.istore_n 3, 1) := by decide +kernel
theorem dX12_hoursOf_14 : decode cX12_hoursOf 14 = .ok (.iload_n 3, 1) := by decide +kernel
theorem dX12_hoursOf_15 : decode cX12_hoursOf 15 = .ok (.aload_n 0, 1) := by decide +kernel
theorem dX12_hoursOf_16 : decode cX12_hoursOf 16 = .ok (.getfield 39, 3) := by decide +kernel
theorem dX12_hoursOf_19 : decode cX12_hoursOf 19 = .ok (.iconst 5, 1) := by decide +kernel
theorem dX12_hoursOf_20 : decode cX12_hoursOf 20 = .ok (.iaload, 1) := by decide +kernel
theorem dX12_hoursOf_21 : decode cX12_hoursOf 21 = .ok (.if_icmp .ge 72, 3) := by decide +kernel
theorem dX12_hoursOf_24 : decode cX12_hoursOf 24 = .ok (.iload_n 1, 1) := by decide +kernel
theorem dX12_hoursOf_25 : decode cX12_hoursOf 25 = .ok (.iload_n 3, 1) := by decide +kernel
theorem dX12_hoursOf_26 : decode cX12_hoursOf 26 = .ok (.invokestatic 406, 3) := by decide +kernel
theorem dX12_hoursOf_29 : decode cX12_hoursOf 29 = .ok (.ifCond .ne 6, 3) := by decide +kernel
theorem dX12_hoursOf_32 : decode cX12_hoursOf 32 = .ok (.goto 55, 3) := by decide +kernel
theorem dX12_hoursOf_35 : decode cX12_hoursOf 35 = .ok (.aload_n 0, 1) := by decide +kernel
theorem dX12_hoursOf_36 : decode cX12_hoursOf 36 = .ok (.getfield 61, 3) := by decide +kernel
theorem dX12_hoursOf_39 : decode cX12_hoursOf 39 = .ok (.bipush 6, 2) := by decide +kernel
theorem dX12_hoursOf_41 : decode cX12_hoursOf 41 = .ok (.iload_n 1, 1) := by decide +kernel
theorem dX12_hoursOf_42 : decode cX12_hoursOf 42 = .ok (.imul, 1) := by decide +kernel
theorem dX12_hoursOf_43 : decode cX12_hoursOf 43 = .ok (.iload_n 3, 1) := by decide +kernel
theorem dX12_hoursOf_44 : decode cX12_hoursOf 44 = .ok (.iadd, 1) := by decide +kernel
theorem dX12_hoursOf_45 : decode cX12_hoursOf 45 = .ok (.aload_n 0, 1) := by decide +kernel
theorem dX12_hoursOf_46 : decode cX12_hoursOf 46 = .ok (.iload_n 1, 1) := by decide +kernel
theorem dX12_hoursOf_47 : decode cX12_hoursOf 47 = .ok (.iload_n 3, 1) := by decide +kernel
theorem dX12_hoursOf_48 : decode cX12_hoursOf 48 = .ok (.invokevirtual 438, 3) := by decide +kernel
theorem dX12_hoursOf_51 : decode cX12_hoursOf 51 = .ok (.iastore, 1) := by decide +kernel
theorem dX12_hoursOf_52 : decode cX12_hoursOf 52 = .ok (.aload_n 0, 1) := by decide +kernel
theorem dX12_hoursOf_53 : decode cX12_hoursOf 53 = .ok (.getfield 61, 3) := by decide +kernel
theorem dX12_hoursOf_56 : decode cX12_hoursOf 56 = .ok (.bipush 6, 2) := by decide +kernel
theorem dX12_hoursOf_58 : decode cX12_hoursOf 58 = .ok (.iload_n 1, 1) := by decide +kernel
theorem dX12_hoursOf_59 : decode cX12_hoursOf 59 = .ok (.imul, 1) := by decide +kernel
theorem dX12_hoursOf_60 : decode cX12_hoursOf 60 = .ok (.iload_n 3, 1) := by decide +kernel
theorem dX12_hoursOf_61 : decode cX12_hoursOf 61 = .ok (.iadd, 1) := by decide +kernel
theorem dX12_hoursOf_62 : decode cX12_hoursOf 62 = .ok (.iaload, 1) := by decide +kernel
theorem dX12_hoursOf_63 : decode cX12_hoursOf 63 = .ok (.aload_n 0, 1) := by decide +kernel
theorem dX12_hoursOf_64 : decode cX12_hoursOf 64 = .ok (.iload_n 3, 1) := by decide +kernel
theorem dX12_hoursOf_65 : decode cX12_hoursOf 65 = .ok (.iconst 1, 1) := by decide +kernel
theorem dX12_hoursOf_66 : decode cX12_hoursOf 66 = .ok (.iadd, 1) := by decide +kernel
theorem dX12_hoursOf_67 : decode cX12_hoursOf 67 = .ok (.iconst 0, 1) := by decide +kernel
theorem dX12_hoursOf_68 : decode cX12_hoursOf 68 = .ok (.invokevirtual 317, 3) := by decide +kernel
theorem dX12_hoursOf_71 : decode cX12_hoursOf 71 = .ok (.iadd, 1) := by decide +kernel
theorem dX12_hoursOf_72 : decode cX12_hoursOf 72 = .ok (.istore 4, 2) := by decide +kernel
theorem dX12_hoursOf_74 : decode cX12_hoursOf 74 = .ok (.iload 4, 2) := by decide +kernel
theorem dX12_hoursOf_76 : decode cX12_hoursOf 76 = .ok (.iload_n 2, 1) := by decide +kernel
theorem dX12_hoursOf_77 : decode cX12_hoursOf 77 = .ok (.if_icmp .ge 8, 3) := by decide +kernel
theorem dX12_hoursOf_80 : decode cX12_hoursOf 80 = .ok (.iload 4, 2) := by decide +kernel
theorem dX12_hoursOf_82 : decode cX12_hoursOf 82 = .ok (.goto 4, 3) := by decide +kernel
theorem dX12_hoursOf_85 : decode cX12_hoursOf 85 = .ok (.iload_n 2, 1) := by decide +kernel
theorem dX12_hoursOf_86 : decode cX12_hoursOf 86 = .ok (.istore_n 2, 1) := by decide +kernel
theorem dX12_hoursOf_87 : decode cX12_hoursOf 87 = .ok (.iinc 3 1, 3) := by decide +kernel
theorem dX12_hoursOf_90 : decode cX12_hoursOf 90 = .ok (.goto (-76), 3) := by decide +kernel
theorem dX12_hoursOf_93 : decode cX12_hoursOf 93 = .ok (.iload_n 2, 1) := by decide +kernel
theorem dX12_hoursOf_94 : decode cX12_hoursOf 94 = .ok (.ireturn, 1) := by decide +kernel
theorem dX12_image_0 : decode cX12_image 0 = .ok (.iload_n 1, 1) := by decide +kernel
theorem dX12_image_1 : decode cX12_image 1 = .ok (.i2l, 1) := by decide +kernel
theorem dX12_image_2 : decode cX12_image 2 = .ok (.lconst 0, 1) := by decide +kernel
theorem dX12_image_3 : decode cX12_image 3 = .ok (.ldc2_w 323, 3) := by decide +kernel
theorem dX12_image_6 : decode cX12_image 6 = .ok (.invokestatic 121, 3) := by decide +kernel
theorem dX12_image_9 : decode cX12_image 9 = .ok (.ifCond .ne 5, 3) := by decide +kernel
theorem dX12_image_12 : decode cX12_image 12 = .ok (.iconst (-1), 1) := by decide +kernel
theorem dX12_image_13 : decode cX12_image 13 = .ok (.ireturn, 1) := by decide +kernel
theorem dX12_image_14 : decode cX12_image 14 = .ok (.aload_n 0, 1) := by decide +kernel
theorem dX12_image_15 : decode cX12_image 15 = .ok (.getfield 80, 3) := by decide +kernel
theorem dX12_image_18 : decode cX12_image 18 = .ok (.iload_n 1, 1) := by decide +kernel
theorem dX12_image_19 : decode cX12_image 19 = .ok (.iconst 1, 1) := by decide +kernel
theorem dX12_image_20 : decode cX12_image 20 = .ok (.bastore, 1) := by decide +kernel
theorem dX12_image_21 : decode cX12_image 21 = .ok (.aload_n 0, 1) := by decide +kernel
theorem dX12_image_22 : decode cX12_image 22 = .ok (.getfield 74, 3) := by decide +kernel
theorem dX12_image_25 : decode cX12_image 25 = .ok (.iload_n 1, 1) := by decide +kernel
theorem dX12_image_26 : decode cX12_image 26 = .ok (.aload_n 0, 1) := by decide +kernel
theorem dX12_image_27 : decode cX12_image 27 = .ok (.getfield 42, 3) := by decide +kernel
theorem dX12_image_30 : decode cX12_image 30 = .ok (.iastore, 1) := by decide +kernel
theorem dX12_image_31 : decode cX12_image 31 = .ok (.aload_n 0, 1) := by decide +kernel
theorem dX12_image_32 : decode cX12_image 32 = .ok (.getfield 77, 3) := by decide +kernel
theorem dX12_image_35 : decode cX12_image 35 = .ok (.iload_n 1, 1) := by decide +kernel
theorem dX12_image_36 : decode cX12_image 36 = .ok (.aload_n 0, 1) := by decide +kernel
theorem dX12_image_37 : decode cX12_image 37 = .ok (.getfield 456, 3) := by decide +kernel
theorem dX12_image_40 : decode cX12_image 40 = .ok (.iastore, 1) := by decide +kernel
theorem dX12_image_41 : decode cX12_image 41 = .ok (.iconst 0, 1) := by decide +kernel
theorem dX12_image_42 : decode cX12_image 42 = .ok (.istore_n 2, 1) := by decide +kernel
theorem dX12_image_43 : decode cX12_image 43 = .ok (.iload_n 2, 1) := by decide +kernel
theorem dX12_image_44 : decode cX12_image 44 = .ok (.sipush 306, 3) := by decide +kernel
theorem dX12_image_47 : decode cX12_image 47 = .ok (.if_icmp .ge 27, 3) := by decide +kernel
theorem dX12_image_50 : decode cX12_image 50 = .ok (.aload_n 0, 1) := by decide +kernel
theorem dX12_image_51 : decode cX12_image 51 = .ok (.getfield 71, 3) := by decide +kernel
theorem dX12_image_54 : decode cX12_image 54 = .ok (.sipush 306, 3) := by decide +kernel
theorem dX12_image_57 : decode cX12_image 57 = .ok (.iload_n 1, 1) := by decide +kernel
theorem dX12_image_58 : decode cX12_image 58 = .ok (.imul, 1) := by decide +kernel
theorem dX12_image_59 : decode cX12_image 59 = .ok (.iload_n 2, 1) := by decide +kernel
theorem dX12_image_60 : decode cX12_image 60 = .ok (.iadd, 1) := by decide +kernel
theorem dX12_image_61 : decode cX12_image 61 = .ok (.aload_n 0, 1) := by decide +kernel
theorem dX12_image_62 : decode cX12_image 62 = .ok (.getfield 39, 3) := by decide +kernel
theorem dX12_image_65 : decode cX12_image 65 = .ok (.iload_n 2, 1) := by decide +kernel
theorem dX12_image_66 : decode cX12_image 66 = .ok (.iaload, 1) := by decide +kernel
theorem dX12_image_67 : decode cX12_image 67 = .ok (.iastore, 1) := by decide +kernel
theorem dX12_image_68 : decode cX12_image 68 = .ok (.iinc 2 1, 3) := by decide +kernel
theorem dX12_image_71 : decode cX12_image 71 = .ok (.goto (-28), 3) := by decide +kernel
theorem dX12_image_74 : decode cX12_image 74 = .ok (.aload_n 0, 1) := by decide +kernel
theorem dX12_image_75 : decode cX12_image 75 = .ok (.getfield 39, 3) := by decide +kernel
theorem dX12_image_78 : decode cX12_image 78 = .ok (.bipush 10, 2) := by decide +kernel
theorem dX12_image_80 : decode cX12_image 80 = .ok (.iaload, 1) := by decide +kernel
theorem dX12_image_81 : decode cX12_image 81 = .ok (.ireturn, 1) := by decide +kernel
theorem dX12_isRest_0 : decode cX12_isRest 0 = .ok (.iconst 0, 1) := by decide +kernel
theorem dX12_isRest_1 : decode cX12_isRest 1 = .ok (.istore 5, 2) := by decide +kernel
theorem dX12_isRest_3 : decode cX12_isRest 3 = .ok (.iload 5, 2) := by decide +kernel
theorem dX12_isRest_5 : decode cX12_isRest 5 = .ok (.iconst 5, 1) := by decide +kernel
theorem dX12_isRest_6 : decode cX12_isRest 6 = .ok (.if_icmp .ge 69, 3) := by decide +kernel
theorem dX12_isRest_9 : decode cX12_isRest 9 = .ok (.aload_n 0, 1) := by decide +kernel
theorem dX12_isRest_10 : decode cX12_isRest 10 = .ok (.iload_n 1, 1) := by decide +kernel
theorem dX12_isRest_11 : decode cX12_isRest 11 = .ok (.iload 5, 2) := by decide +kernel
theorem dX12_isRest_13 : decode cX12_isRest 13 = .ok (.iconst 5, 1) := by decide +kernel
theorem dX12_isRest_14 : decode cX12_isRest 14 = .ok (.iload 5, 2) := by decide +kernel
theorem dX12_isRest_16 : decode cX12_isRest 16 = .ok (.imul, 1) := by decide +kernel
theorem dX12_isRest_17 : decode cX12_isRest 17 = .ok (.iload 4, 2) := by decide +kernel
theorem dX12_isRest_19 : decode cX12_isRest 19 = .ok (.iadd, 1) := by decide +kernel
theorem dX12_isRest_20 : decode cX12_isRest 20 = .ok (.invokevirtual 430, 3) := by decide +kernel
theorem dX12_isRest_23 : decode cX12_isRest 23 = .ok (.aload_n 0, 1) := by decide +kernel
theorem dX12_isRest_24 : decode cX12_isRest 24 = .ok (.iload_n 1, 1) := by decide +kernel
theorem dX12_isRest_25 : decode cX12_isRest 25 = .ok (.iload_n 3, 1) := by decide +kernel
theorem dX12_isRest_26 : decode cX12_isRest 26 = .ok (.iconst 5, 1) := by decide +kernel
theorem dX12_isRest_27 : decode cX12_isRest 27 = .ok (.iload_n 3, 1) := by decide +kernel
theorem dX12_isRest_28 : decode cX12_isRest 28 = .ok (.imul, 1) := by decide +kernel
theorem dX12_isRest_29 : decode cX12_isRest 29 = .ok (.iload 4, 2) := by decide +kernel
theorem dX12_isRest_31 : decode cX12_isRest 31 = .ok (.iadd, 1) := by decide +kernel
theorem dX12_isRest_32 : decode cX12_isRest 32 = .ok (.invokevirtual 430, 3) := by decide +kernel
theorem dX12_isRest_35 : decode cX12_isRest 35 = .ok (.if_icmp .gt 32, 3) := by decide +kernel
theorem dX12_isRest_38 : decode cX12_isRest 38 = .ok (.aload_n 0, 1) := by decide +kernel
theorem dX12_isRest_39 : decode cX12_isRest 39 = .ok (.iload_n 2, 1) := by decide +kernel
theorem dX12_isRest_40 : decode cX12_isRest 40 = .ok (.iload 5, 2) := by decide +kernel
theorem dX12_isRest_42 : decode cX12_isRest 42 = .ok (.iconst 5, 1) := by decide +kernel
theorem dX12_isRest_43 : decode cX12_isRest 43 = .ok (.iload_n 3, 1) := by decide +kernel
theorem dX12_isRest_44 : decode cX12_isRest 44 = .ok (.imul, 1) := by decide +kernel
theorem dX12_isRest_45 : decode cX12_isRest 45 = .ok (.iload 5, 2) := by decide +kernel
theorem dX12_isRest_47 : decode cX12_isRest 47 = .ok (.iadd, 1) := by decide +kernel
theorem dX12_isRest_48 : decode cX12_isRest 48 = .ok (.invokevirtual 430, 3) := by decide +kernel
theorem dX12_isRest_51 : decode cX12_isRest 51 = .ok (.aload_n 0, 1) := by decide +kernel
theorem dX12_isRest_52 : decode cX12_isRest 52 = .ok (.iload_n 2, 1) := by decide +kernel
theorem dX12_isRest_53 : decode cX12_isRest 53 = .ok (.iload 4, 2) := by decide +kernel
theorem dX12_isRest_55 : decode cX12_isRest 55 = .ok (.iconst 5, 1) := by decide +kernel
theorem dX12_isRest_56 : decode cX12_isRest 56 = .ok (.iload_n 3, 1) := by decide +kernel
theorem dX12_isRest_57 : decode cX12_isRest 57 = .ok (.imul, 1) := by decide +kernel
theorem dX12_isRest_58 : decode cX12_isRest 58 = .ok (.iload 4, 2) := by decide +kernel
theorem dX12_isRest_60 : decode cX12_isRest 60 = .ok (.iadd, 1) := by decide +kernel
theorem dX12_isRest_61 : decode cX12_isRest 61 = .ok (.invokevirtual 430, 3) := by decide +kernel
theorem dX12_isRest_64 : decode cX12_isRest 64 = .ok (.if_icmp .le 5, 3) := by decide +kernel
theorem dX12_isRest_67 : decode cX12_isRest 67 = .ok (.iconst 0, 1) := by decide +kernel
theorem dX12_isRest_68 : decode cX12_isRest 68 = .ok (.ireturn, 1) := by decide +kernel
theorem dX12_isRest_69 : decode cX12_isRest 69 = .ok (.iinc 5 1, 3) := by decide +kernel
theorem dX12_isRest_72 : decode cX12_isRest 72 = .ok (.goto (-69), 3) := by decide +kernel
theorem dX12_isRest_75 : decode cX12_isRest 75 = .ok (.iconst 1, 1) := by decide +kernel
theorem dX12_isRest_76 : decode cX12_isRest 76 = .ok (.ireturn, 1) := by decide +kernel
theorem dX12_isRule_0 : decode cX12_isRule 0 = .ok (.iload_n 1, 1) := by decide +kernel
theorem dX12_isRule_1 : decode cX12_isRule 1 = .ok (.ifCond .lt 15, 3) := by decide +kernel
theorem dX12_isRule_4 : decode cX12_isRule 4 = .ok (.iload_n 1, 1) := by decide +kernel
theorem dX12_isRule_5 : decode cX12_isRule 5 = .ok (.aload_n 0, 1) := by decide +kernel
theorem dX12_isRule_6 : decode cX12_isRule 6 = .ok (.getfield 271, 3) := by decide +kernel
theorem dX12_isRule_9 : decode cX12_isRule 9 = .ok (.if_icmp .ge 7, 3) := by decide +kernel
theorem dX12_isRule_12 : decode cX12_isRule 12 = .ok (.iconst 1, 1) := by decide +kernel
theorem dX12_isRule_13 : decode cX12_isRule 13 = .ok (.goto 4, 3) := by decide +kernel
theorem dX12_isRule_16 : decode cX12_isRule 16 = .ok (.iconst 0, 1) := by decide +kernel
theorem dX12_isRule_17 : decode cX12_isRule 17 = .ok (.ireturn, 1) := by decide +kernel
set_option maxHeartbeats 4000000 in
set_option maxRecDepth 100000 in
theorem t_X12_feed (l : Launch) (dC : Nat → ClassId) (dI : Nat → Nat → Nat) (tys : List (ClassId × FieldType)) (κ : tK) (B : Nat) (ws : va_W) (hT : Ty κ tys B ws) (a0 : Nat) (k_a0 : κ a0 = some 12) (a1 : Int32) (a2 : Int32) (a3 : Int32) (a4 : Int32) (a5 : Int32) (sz : Nat) : Met l yX12_feed (ws_u yX12_feed cX12_feed 6 (some .int)) ({ frames := 1, cells := 0, slots := 0, locals := 22 }) (va_Pc [.ref a0, .int a1, .int a2, .int a3, .int a4, .int a5] (cPre (dC, dI) tys ws sz)) (va_Qi (fun (r : Int32) (w : va_W) => (-1) ≤ r.toInt ∧ r.toInt ≤ 420 ∧ Ty κ tys B w ∧ Sm [(12, 1)] [54] κ ws w) (fun w t => cPost (dC, dI) tys w (va_A ws sz) t) (va_A ws sz)) 0 0 (va_A ws sz) := by
  refine Met.ofW (cc := cX12_feed) (maxL := 6) (ret := (some .int)) (by decide) rfl ?_
  intro p e s m args below meth c s₁ B0 hml hv
  obtain ⟨rfl, hsz, hP, hK, hD0, hE⟩ := hv
  have hx := B0.exec
  have hb := B0.bytes
  have hr := B0.returns
  have hts0 := atoms_spec (ws := ws_u yX12_feed cX12_feed 6 (some .int)) B0.pre
  have hts : ∀ w ∈ gT, w.before _ s = true := fun w h => hts0 w (List.mem_cons_of_mem _ h)
  have hown : s.vm.findClass RX12 = some m.cls := findClass_of_methodNamed B0.named
  have hlocks := B0.notSynchronized
  subst hsz
  have hD := hD0.self (sz := s.heap.size)
  generalize hAe : va_A ws s.heap.size = A at hD ⊢
  have hA : ∀ q : Nat, s.heap.size ≤ q → A q := fun q h => by rw [← hAe]; exact Or.inr h
  have hw : tW (dC, dI) tys κ B A s ws s.heap [] := ⟨hK, hP, hD, va_S.rf, hT⟩
  have hM : Sm [(12, 1)] [54] κ ws ws := Sm.rf
  clear hP hK hD hD0 hts0
  have l_a1 := i32_lo a1
  have h_a1 := i32_hi a1
  have l_a2 := i32_lo a2
  have h_a2 := i32_hi a2
  have l_a3 := i32_lo a3
  have h_a3 := i32_hi a3
  have l_a4 := i32_lo a4
  have h_a4 := i32_hi a4
  have l_a5 := i32_lo a5
  have h_a5 := i32_hi a5
  have hl := lv_entry ([.ref a0, .int a1, .int a2, .int a3, .int a4, .int a5]) (n := 6) (Nat.le_of_ble_eq_true rfl)
  rw [lg_entry_eq]
  generalize (lg_sl ([.ref a0, .int a1, .int a2, .int a3, .int a4, .int a5]) ++ List.replicate (6 - (lg_sl ([.ref a0, .int a1, .int a2, .int a3, .int a4, .int a5])).length) Slot.unset).toArray = ls at hl ⊢
  have hl : lv_has ls 6 [(0, .ref a0), (1, .int a1), (2, .int a2), (3, .int a3), (4, .int a4), (5, .int a5)] := hl
  refine t_start (fun QQ hQ => ?_)
  refine lv_aload_n hx hb dX12_feed_0 rfl (lv_at hl 0 rfl) ?_
  refine t_geti (ci := 12) (C := RX12) (T := TX12) (N := 38) hx hb hts iX12 hown hw k_a0 rfl rfl rfl 1 (by decide) (hts _ tw_1126) (fun _ h9 => h9) dX12_feed_1 rfl (fun v1 l_v1 h_v1 f_a0_X12_1 => ?_)
  have l_v1 : 0 ≤ v1.toInt := l_v1
  have h_v1 : v1.toInt ≤ 400 := h_v1
  refine lv_bipush (v := 20) hx hb dX12_feed_4 (by decide) ?_
  refine lv_iadd hx hb dX12_feed_6 ?_
  refine lv_topi (fun v6 e_v6 => ?_)
  have e_v6 : v6.toInt = v1.toInt + 20 := ad_i e_v6 rfl li_20 (by omega) (by omega)
  refine lv_sipush (v := 400) hx hb dX12_feed_7 (by decide) ?_
  refine lv_icmp_le (tgt := 15) hx hb dX12_feed_10 (by decide) (fun c_10 => ?_) (fun c_10 => ?_)
  · simp only [fa_lt, fa_le, fa_eq, li_400] at c_10
    refine lv_aload_n hx hb dX12_feed_15 rfl (lv_at hl 0 rfl) ?_
    refine lv_iload_n hx hb dX12_feed_16 rfl (lv_at hl 1 rfl) ?_
    refine t_callv (va_runV (As := [.int a1]) (rest := []) ⟨hx, hb, hml, hown, hts⟩ (t_X12_four l dC dI tys κ B ws hw.2.2.2.2 a0 k_a0 a1 v1 (by omega) (by omega) f_a0_X12_1 s.heap.size) (cwV 1 hts (gUV tw_1244 tw_1246 ts_3_0 tw_13 tw_1247) rfl rfl rfl (by decide +kernel) ⟨(Nat.le_of_ble_eq_true rfl), (Nat.le_of_ble_eq_true rfl)⟩) ⟨cPre.blind, t_recv hw (ci := 12) k_a0 rfl rfl, cPre.use hw.2.1 hw.1 hw.2.2.1 hE⟩ rfl rfl hl.1 rfl (lv_room (Nat.le_of_ble_eq_true rfl)) dX12_feed_17 ⟨(Nat.le_of_ble_eq_true rfl), (Nat.le_of_ble_eq_true rfl)⟩) hw hA (fun _ h => h.1) (fun w_1 H locs hp hw => ?_)
    obtain ⟨_, hm, ⟨v17t, l_v17t, h_v17t, f_a0_X12_1, y_v17⟩⟩ := hp
    have hM := hM.trans hm (by decide) (by decide)
    refine lv_aload_n hx hb dX12_feed_20 rfl (lv_at hl 0 rfl) ?_
    refine lv_iload_n hx hb dX12_feed_21 rfl (lv_at hl 2 rfl) ?_
    refine t_callv (va_runV (As := [.int a2]) (rest := []) ⟨hx, hb, hml, hown, hts⟩ (t_X12_four l dC dI tys κ B w_1 hw.2.2.2.2 a0 k_a0 a2 v17t (by omega) (by omega) f_a0_X12_1 H.size) (cwV 1 hts (gUV tw_1244 tw_1246 ts_3_0 tw_13 tw_1247) rfl rfl rfl (by decide +kernel) ⟨(Nat.le_of_ble_eq_true rfl), (Nat.le_of_ble_eq_true rfl)⟩) ⟨cPre.blind, t_recv hw (ci := 12) k_a0 rfl rfl, cPre.use hw.2.1 hw.1 hw.2.2.1 hE⟩ rfl rfl hl.1 rfl (lv_room (Nat.le_of_ble_eq_true rfl)) dX12_feed_22 ⟨(Nat.le_of_ble_eq_true rfl), (Nat.le_of_ble_eq_true rfl)⟩) hw hA (fun _ h => h.1) (fun w_2 H locs hp hw => ?_)
    obtain ⟨_, hm, ⟨v22t, l_v22t, h_v22t, f_a0_X12_1, y_v22⟩⟩ := hp
    have hM := hM.trans hm (by decide) (by decide)
    refine lv_aload_n hx hb dX12_feed_25 rfl (lv_at hl 0 rfl) ?_
    refine lv_iload_n hx hb dX12_feed_26 rfl (lv_at hl 3 rfl) ?_
    refine t_callv (va_runV (As := [.int a3]) (rest := []) ⟨hx, hb, hml, hown, hts⟩ (t_X12_four l dC dI tys κ B w_2 hw.2.2.2.2 a0 k_a0 a3 v22t (by omega) (by omega) f_a0_X12_1 H.size) (cwV 1 hts (gUV tw_1244 tw_1246 ts_3_0 tw_13 tw_1247) rfl rfl rfl (by decide +kernel) ⟨(Nat.le_of_ble_eq_true rfl), (Nat.le_of_ble_eq_true rfl)⟩) ⟨cPre.blind, t_recv hw (ci := 12) k_a0 rfl rfl, cPre.use hw.2.1 hw.1 hw.2.2.1 hE⟩ rfl rfl hl.1 rfl (lv_room (Nat.le_of_ble_eq_true rfl)) dX12_feed_27 ⟨(Nat.le_of_ble_eq_true rfl), (Nat.le_of_ble_eq_true rfl)⟩) hw hA (fun _ h => h.1) (fun w_3 H locs hp hw => ?_)
    obtain ⟨_, hm, ⟨v27t, l_v27t, h_v27t, f_a0_X12_1, y_v27⟩⟩ := hp
    have hM := hM.trans hm (by decide) (by decide)
    refine lv_aload_n hx hb dX12_feed_30 rfl (lv_at hl 0 rfl) ?_
    refine lv_iload hx hb dX12_feed_31 (lv_at hl 4 rfl) ?_
    refine t_callv (va_runV (As := [.int a4]) (rest := []) ⟨hx, hb, hml, hown, hts⟩ (t_X12_four l dC dI tys κ B w_3 hw.2.2.2.2 a0 k_a0 a4 v27t (by omega) (by omega) f_a0_X12_1 H.size) (cwV 1 hts (gUV tw_1244 tw_1246 ts_3_0 tw_13 tw_1247) rfl rfl rfl (by decide +kernel) ⟨(Nat.le_of_ble_eq_true rfl), (Nat.le_of_ble_eq_true rfl)⟩) ⟨cPre.blind, t_recv hw (ci := 12) k_a0 rfl rfl, cPre.use hw.2.1 hw.1 hw.2.2.1 hE⟩ rfl rfl hl.1 rfl (lv_room (Nat.le_of_ble_eq_true rfl)) dX12_feed_33 ⟨(Nat.le_of_ble_eq_true rfl), (Nat.le_of_ble_eq_true rfl)⟩) hw hA (fun _ h => h.1) (fun w_4 H locs hp hw => ?_)
    obtain ⟨_, hm, ⟨v33t, l_v33t, h_v33t, f_a0_X12_1, y_v33⟩⟩ := hp
    have hM := hM.trans hm (by decide) (by decide)
    refine lv_aload_n hx hb dX12_feed_36 rfl (lv_at hl 0 rfl) ?_
    refine lv_iload hx hb dX12_feed_37 (lv_at hl 5 rfl) ?_
    refine t_callv (va_runV (As := [.int a5]) (rest := []) ⟨hx, hb, hml, hown, hts⟩ (t_X12_four l dC dI tys κ B w_4 hw.2.2.2.2 a0 k_a0 a5 v33t (by omega) (by omega) f_a0_X12_1 H.size) (cwV 1 hts (gUV tw_1244 tw_1246 ts_3_0 tw_13 tw_1247) rfl rfl rfl (by decide +kernel) ⟨(Nat.le_of_ble_eq_true rfl), (Nat.le_of_ble_eq_true rfl)⟩) ⟨cPre.blind, t_recv hw (ci := 12) k_a0 rfl rfl, cPre.use hw.2.1 hw.1 hw.2.2.1 hE⟩ rfl rfl hl.1 rfl (lv_room (Nat.le_of_ble_eq_true rfl)) dX12_feed_39 ⟨(Nat.le_of_ble_eq_true rfl), (Nat.le_of_ble_eq_true rfl)⟩) hw hA (fun _ h => h.1) (fun w_5 H locs hp hw => ?_)
    obtain ⟨_, hm, ⟨v39t, l_v39t, h_v39t, f_a0_X12_1, y_v39⟩⟩ := hp
    have hM := hM.trans hm (by decide) (by decide)
    refine lv_aload_n hx hb dX12_feed_42 rfl (lv_at hl 0 rfl) ?_
    refine t_getk (ci := 12) (C := RX12) (T := TX12) (N := 38) hx hb hts iX12 hown hw rfl 1 (by decide) (hts _ tw_1126) (fun _ h9 => h9) dX12_feed_43 f_a0_X12_1 ?_
    rw [hQ]
    refine W.widen (k := 0) (n := 0) (Nat.le_refl _) (Nat.le_refl _) ?_
    exact W.iret (v := v39t) hx hb hr (fun t ht hW => ⟨⟨v39t, w_5, rfl, ⟨(by omega), (by omega), hw.2.2.2.2, hM⟩, by rw [ht]; exact hw.2.1, va_K.moved hW.alike hw.1, hw.2.2.1⟩, hw.2.2.2.1.F ht⟩) hw.2.2.2.1.2.2 dX12_feed_46
  · simp only [fa_lt, fa_le, fa_eq, li_400] at c_10
    refine lv_iconst (v := (-1)) hx hb dX12_feed_13 (by decide) ?_
    rw [hQ]
    refine W.widen (k := 0) (n := 0) (Nat.le_refl _) (Nat.le_refl _) ?_
    exact W.iret (v := (-1)) hx hb hr (fun t ht hW => ⟨⟨(-1), ws, rfl, ⟨(by decide), (by decide), hw.2.2.2.2, hM⟩, by rw [ht]; exact hw.2.1, va_K.moved hW.alike hw.1, hw.2.2.1⟩, hw.2.2.2.1.F ht⟩) hw.2.2.2.1.2.2 dX12_feed_14
set_option maxHeartbeats 4000000 in
set_option maxRecDepth 100000 in
theorem t_X12_isRule (l : Launch) (dC : Nat → ClassId) (dI : Nat → Nat → Nat) (tys : List (ClassId × FieldType)) (κ : tK) (B : Nat) (ws : va_W) (hT : Ty κ tys B ws) (a0 : Nat) (k_a0 : κ a0 = some 12) (a1 : Int32) (sz : Nat) : Met l yX12_isRule (ws_u yX12_isRule cX12_isRule 2 (some .boolean)) ({ frames := 0, cells := 0, slots := 0, locals := 0 }) (va_Pc [.ref a0, .int a1] (cPre (dC, dI) tys ws sz)) (va_Qi (fun (r : Int32) (w : va_W) => 0 ≤ r.toInt ∧ r.toInt ≤ 1 ∧ Ty κ tys B w ∧ Sm [] [] κ ws w ∧ (r.toInt = 0 ∨ 0 ≤ a1.toInt ∧ a1.toInt ≤ 5)) (fun w t => cPost (dC, dI) tys w (va_A ws sz) t) (va_A ws sz)) 0 0 (va_A ws sz) := by
  refine Met.ofW (cc := cX12_isRule) (maxL := 2) (ret := (some .boolean)) (by decide) rfl ?_
  intro p e s m args below meth c s₁ B0 hml hv
  obtain ⟨rfl, hsz, hP, hK, hD0, hE⟩ := hv
  have hx := B0.exec
  have hb := B0.bytes
  have hr := B0.returns
  have hts0 := atoms_spec (ws := ws_u yX12_isRule cX12_isRule 2 (some .boolean)) B0.pre
  have hts : ∀ w ∈ gT, w.before _ s = true := fun w h => hts0 w (List.mem_cons_of_mem _ h)
  have hown : s.vm.findClass RX12 = some m.cls := findClass_of_methodNamed B0.named
  have hlocks := B0.notSynchronized
  subst hsz
  have hD := hD0.self (sz := s.heap.size)
  generalize hAe : va_A ws s.heap.size = A at hD ⊢
  have hA : ∀ q : Nat, s.heap.size ≤ q → A q := fun q h => by rw [← hAe]; exact Or.inr h
  have hw : tW (dC, dI) tys κ B A s ws s.heap [] := ⟨hK, hP, hD, va_S.rf, hT⟩
  have hM : Sm [] [] κ ws ws := Sm.rf
  clear hP hK hD hD0 hts0
  have l_a1 := i32_lo a1
  have h_a1 := i32_hi a1
  have hl := lv_entry ([.ref a0, .int a1]) (n := 2) (Nat.le_of_ble_eq_true rfl)
  rw [lg_entry_eq]
  generalize (lg_sl ([.ref a0, .int a1]) ++ List.replicate (2 - (lg_sl ([.ref a0, .int a1])).length) Slot.unset).toArray = ls at hl ⊢
  have hl : lv_has ls 2 [(0, .ref a0), (1, .int a1)] := hl
  refine t_start (fun QQ hQ => ?_)
  refine lv_iload_n hx hb dX12_isRule_0 rfl (lv_at hl 1 rfl) ?_
  refine lv_if_lt (tgt := 16) hx hb dX12_isRule_1 (by decide) (fun c_1 => ?_) (fun c_1 => ?_)
  · simp only [fa_lt, fa_le, fa_eq, li_0] at c_1
    refine lv_iconst (v := 0) hx hb dX12_isRule_16 (by decide) ?_
    rw [hQ]
    refine W.widen (k := 0) (n := 0) (Nat.le_refl _) (Nat.le_refl _) ?_
    exact W.zret (v := 0) hx hb hr rfl (fun t ht hW => ⟨⟨0, ws, rfl, ⟨(by decide), (by decide), hw.2.2.2.2, hM, (by have := li_0; omega)⟩, by rw [ht]; exact hw.2.1, va_K.moved hW.alike hw.1, hw.2.2.1⟩, hw.2.2.2.1.F ht⟩) hw.2.2.2.1.2.2 dX12_isRule_17
  · simp only [fa_lt, fa_le, fa_eq, li_0] at c_1
    refine lv_iload_n hx hb dX12_isRule_4 rfl (lv_at hl 1 rfl) ?_
    refine lv_aload_n hx hb dX12_isRule_5 rfl (lv_at hl 0 rfl) ?_
    refine t_geti (ci := 12) (C := RX12) (T := TX12) (N := 38) hx hb hts iX12 hown hw k_a0 rfl rfl rfl 2 (by decide) (hts _ tw_1127) (fun _ h9 => h9) dX12_isRule_6 rfl (fun v6 l_v6 h_v6 f_a0_X12_2 => ?_)
    have l_v6 : 0 ≤ v6.toInt := l_v6
    have h_v6 : v6.toInt ≤ 6 := h_v6
    refine lv_icmp_ge (tgt := 16) hx hb dX12_isRule_9 (by decide) (fun c_9 => ?_) (fun c_9 => ?_)
    · simp only [fa_lt, fa_le, fa_eq] at c_9
      refine lv_iconst (v := 0) hx hb dX12_isRule_16 (by decide) ?_
      rw [hQ]
      refine W.widen (k := 0) (n := 0) (Nat.le_refl _) (Nat.le_refl _) ?_
      exact W.zret (v := 0) hx hb hr rfl (fun t ht hW => ⟨⟨0, ws, rfl, ⟨(by decide), (by decide), hw.2.2.2.2, hM, (by have := li_0; omega)⟩, by rw [ht]; exact hw.2.1, va_K.moved hW.alike hw.1, hw.2.2.1⟩, hw.2.2.2.1.F ht⟩) hw.2.2.2.1.2.2 dX12_isRule_17
    · simp only [fa_lt, fa_le, fa_eq] at c_9
      refine lv_iconst (v := 1) hx hb dX12_isRule_12 (by decide) ?_
      refine lv_goto (tgt := 17) hx hb dX12_isRule_13 (by decide) ?_
      rw [hQ]
      refine W.widen (k := 0) (n := 0) (Nat.le_refl _) (Nat.le_refl _) ?_
      exact W.zret (v := 1) hx hb hr rfl (fun t ht hW => ⟨⟨1, ws, rfl, ⟨(by decide), (by decide), hw.2.2.2.2, hM, (by have := li_1; omega)⟩, by rw [ht]; exact hw.2.1, va_K.moved hW.alike hw.1, hw.2.2.1⟩, hw.2.2.2.1.F ht⟩) hw.2.2.2.1.2.2 dX12_isRule_17
set_option maxHeartbeats 4000000 in
set_option maxRecDepth 100000 in
theorem t_X12_force (l : Launch) (dC : Nat → ClassId) (dI : Nat → Nat → Nat) (tys : List (ClassId × FieldType)) (κ : tK) (B : Nat) (ws : va_W) (hT : Ty κ tys B ws) (a0 : Nat) (k_a0 : κ a0 = some 12) (a1 : Int32) (sz : Nat) : Met l yX12_force (ws_u yX12_force cX12_force 3 (some .int)) ({ frames := 1, cells := 0, slots := 0, locals := 21 }) (va_Pc [.ref a0, .int a1] (cPre (dC, dI) tys ws sz)) (va_Qi (fun (r : Int32) (w : va_W) => (-2) ≤ r.toInt ∧ r.toInt ≤ 5 ∧ Ty κ tys B w ∧ Sm [(12, 21)] [] κ ws w) (fun w t => cPost (dC, dI) tys w (va_A ws sz) t) (va_A ws sz)) 0 0 (va_A ws sz) := by
  refine Met.ofW (cc := cX12_force) (maxL := 3) (ret := (some .int)) (by decide) rfl ?_
  intro p e s m args below meth c s₁ B0 hml hv
  obtain ⟨rfl, hsz, hP, hK, hD0, hE⟩ := hv
  have hx := B0.exec
  have hb := B0.bytes
  have hr := B0.returns
  have hts0 := atoms_spec (ws := ws_u yX12_force cX12_force 3 (some .int)) B0.pre
  have hts : ∀ w ∈ gT, w.before _ s = true := fun w h => hts0 w (List.mem_cons_of_mem _ h)
  have hown : s.vm.findClass RX12 = some m.cls := findClass_of_methodNamed B0.named
  have hlocks := B0.notSynchronized
  subst hsz
  have hD := hD0.self (sz := s.heap.size)
  generalize hAe : va_A ws s.heap.size = A at hD ⊢
  have hA : ∀ q : Nat, s.heap.size ≤ q → A q := fun q h => by rw [← hAe]; exact Or.inr h
  have hw : tW (dC, dI) tys κ B A s ws s.heap [] := ⟨hK, hP, hD, va_S.rf, hT⟩
  have hM : Sm [(12, 21)] [] κ ws ws := Sm.rf
  clear hP hK hD hD0 hts0
  have l_a1 := i32_lo a1
  have h_a1 := i32_hi a1
  have hl := lv_entry ([.ref a0, .int a1]) (n := 3) (Nat.le_of_ble_eq_true rfl)
  rw [lg_entry_eq]
  generalize (lg_sl ([.ref a0, .int a1]) ++ List.replicate (3 - (lg_sl ([.ref a0, .int a1])).length) Slot.unset).toArray = ls at hl ⊢
  have hl : lv_has ls 3 [(0, .ref a0), (1, .int a1)] := hl
  refine t_start (fun QQ hQ => ?_)
  refine lv_iload_n hx hb dX12_force_0 rfl (lv_at hl 1 rfl) ?_
  refine lv_iconst (v := (-1)) hx hb dX12_force_1 (by decide) ?_
  refine lv_icmp_eq (tgt := 16) hx hb dX12_force_2 (by decide) (fun c_2 => ?_) (fun c_2 => ?_)
  · simp only [fa_lt, fa_le, fa_eq, li_m1] at c_2
    refine lv_aload_n hx hb dX12_force_16 rfl (lv_at hl 0 rfl) ?_
    refine t_geti (ci := 12) (C := RX12) (T := TX12) (N := 38) hx hb hts iX12 hown hw k_a0 rfl rfl rfl 21 (by decide) (hts _ tw_1146) (fun _ h9 => h9) dX12_force_17 rfl (fun v17 l_v17 h_v17 f_a0_X12_21 => ?_)
    have l_v17 : (-1) ≤ v17.toInt := l_v17
    have h_v17 : v17.toInt ≤ 5 := h_v17
    refine lv_istore_n (lv' := [(2, .int v17), (0, .ref a0), (1, .int a1)]) hx hb dX12_force_20 rfl hl (by decide) rfl (fun ls hl => ?_)
    refine lv_aload_n hx hb dX12_force_21 rfl (lv_at hl 1 rfl) ?_
    refine lv_iload_n hx hb dX12_force_22 rfl (lv_at hl 2 rfl) ?_
    refine t_put (ci := 12) (C := RX12) (T := TX12) (N := 38) (v := .int a1) hx hb hts iX12 tyX12 tyX12_ok nmX12 hown hw k_a0 rfl rfl rfl 21 (by decide) (hts _ tw_1146) (fun _ h9 => h9) rfl (tyX12_ok 21 (by decide)) rfl rfl (okV.int rfl (by omega) (by omega)) dX12_force_23 (fun w_1 H locs hw u => ?_)
    have hM := hM.up1 u (by decide)
    have f_a0_X12_21 := u.2.2
    refine lv_iload_n hx hb dX12_force_26 rfl (lv_at hl 0 rfl) ?_
    rw [hQ]
    refine W.widen (k := 0) (n := 0) (Nat.le_refl _) (Nat.le_refl _) ?_
    exact W.iret (v := v17) hx hb hr (fun t ht hW => ⟨⟨v17, w_1, rfl, ⟨(by omega), (by omega), hw.2.2.2.2, hM⟩, by rw [ht]; exact hw.2.1, va_K.moved hW.alike hw.1, hw.2.2.1⟩, hw.2.2.2.1.F ht⟩) hw.2.2.2.1.2.2 dX12_force_27
  · simp only [fa_lt, fa_le, fa_eq, li_m1] at c_2
    refine lv_aload_n hx hb dX12_force_5 rfl (lv_at hl 0 rfl) ?_
    refine lv_iload_n hx hb dX12_force_6 rfl (lv_at hl 1 rfl) ?_
    refine t_calli (va_runV (As := [.int a1]) (rest := []) ⟨hx, hb, hml, hown, hts⟩ (t_X12_isRule l dC dI tys κ B ws hw.2.2.2.2 a0 k_a0 a1 s.heap.size) (cwV 1 hts (gUV tw_1440 tw_1442 ts_5_6 tw_13 tw_1443) rfl rfl rfl (by decide +kernel) ⟨(Nat.le_of_ble_eq_true rfl), (Nat.le_of_ble_eq_true rfl)⟩) ⟨cPre.blind, t_recv hw (ci := 12) k_a0 rfl rfl, cPre.use hw.2.1 hw.1 hw.2.2.1 hE⟩ rfl rfl hl.1 rfl (lv_room (Nat.le_of_ble_eq_true rfl)) dX12_force_7 ⟨(Nat.le_of_ble_eq_true rfl), (Nat.le_of_ble_eq_true rfl)⟩) hw hA (fun _ _ h => h.2.2.1) (fun v7 w_2 H locs hp hw => ?_)
    obtain ⟨l_v7, h_v7, _, hm, x_v7_0⟩ := hp
    have hM := hM.trans hm (by decide) (by decide)
    refine lv_if_ne (tgt := 16) hx hb dX12_force_10 (by decide) (fun c_10 => ?_) (fun c_10 => ?_)
    · simp only [fa_lt, fa_le, fa_eq, li_0] at c_10
      refine lv_aload_n hx hb dX12_force_16 rfl (lv_at hl 0 rfl) ?_
      refine t_geti (ci := 12) (C := RX12) (T := TX12) (N := 38) hx hb hts iX12 hown hw k_a0 rfl rfl rfl 21 (by decide) (hts _ tw_1146) (fun _ h9 => h9) dX12_force_17 rfl (fun v17 l_v17 h_v17 f_a0_X12_21 => ?_)
      have l_v17 : (-1) ≤ v17.toInt := l_v17
      have h_v17 : v17.toInt ≤ 5 := h_v17
      refine lv_istore_n (lv' := [(2, .int v17), (0, .ref a0), (1, .int a1)]) hx hb dX12_force_20 rfl hl (by decide) rfl (fun ls hl => ?_)
      refine lv_aload_n hx hb dX12_force_21 rfl (lv_at hl 1 rfl) ?_
      refine lv_iload_n hx hb dX12_force_22 rfl (lv_at hl 2 rfl) ?_
      refine t_put (ci := 12) (C := RX12) (T := TX12) (N := 38) (v := .int a1) hx hb hts iX12 tyX12 tyX12_ok nmX12 hown hw k_a0 rfl rfl rfl 21 (by decide) (hts _ tw_1146) (fun _ h9 => h9) rfl (tyX12_ok 21 (by decide)) rfl rfl (okV.int rfl (by omega) (by omega)) dX12_force_23 (fun w_3 H locs hw u => ?_)
      have hM := hM.up1 u (by decide)
      have f_a0_X12_21 := u.2.2
      refine lv_iload_n hx hb dX12_force_26 rfl (lv_at hl 0 rfl) ?_
      rw [hQ]
      refine W.widen (k := 0) (n := 0) (Nat.le_refl _) (Nat.le_refl _) ?_
      exact W.iret (v := v17) hx hb hr (fun t ht hW => ⟨⟨v17, w_3, rfl, ⟨(by omega), (by omega), hw.2.2.2.2, hM⟩, by rw [ht]; exact hw.2.1, va_K.moved hW.alike hw.1, hw.2.2.1⟩, hw.2.2.2.1.F ht⟩) hw.2.2.2.1.2.2 dX12_force_27
    · simp only [fa_lt, fa_le, fa_eq, li_0] at c_10
      refine lv_bipush (v := (-2)) hx hb dX12_force_13 (by decide) ?_
      rw [hQ]
      refine W.widen (k := 0) (n := 0) (Nat.le_refl _) (Nat.le_refl _) ?_
      exact W.iret (v := (-2)) hx hb hr (fun t ht hW => ⟨⟨(-2), w_2, rfl, ⟨(by decide), (by decide), hw.2.2.2.2, hM⟩, by rw [ht]; exact hw.2.1, va_K.moved hW.alike hw.1, hw.2.2.1⟩, hw.2.2.2.1.F ht⟩) hw.2.2.2.1.2.2 dX12_force_15
set_option maxHeartbeats 4000000 in
set_option maxRecDepth 100000 in
theorem t_X12_gainBy (l : Launch) (dC : Nat → ClassId) (dI : Nat → Nat → Nat) (tys : List (ClassId × FieldType)) (κ : tK) (B : Nat) (ws : va_W) (hT : Ty κ tys B ws) (a0 : Nat) (k_a0 : κ a0 = some 12) (a1 : Int32) (l_a1 : 0 ≤ a1.toInt) (h_a1 : a1.toInt ≤ 5) (a2 : Int32) (l_a2 : 0 ≤ a2.toInt) (h_a2 : a2.toInt ≤ 4) (a3 : Int32) (l_a3 : 0 ≤ a3.toInt) (h_a3 : a3.toInt ≤ 24) (sz : Nat) : Met l yX12_gainBy (ws_u yX12_gainBy cX12_gainBy 4 (some .int)) ({ frames := 0, cells := 0, slots := 0, locals := 0 }) (va_Pc [.ref a0, .int a1, .int a2, .int a3] (cPre (dC, dI) tys ws sz)) (va_Qi (fun (r : Int32) (w : va_W) => 0 ≤ r.toInt ∧ r.toInt ≤ 20 ∧ Ty κ tys B w ∧ Sm [] [] κ ws w) (fun w t => cPost (dC, dI) tys w (va_A ws sz) t) (va_A ws sz)) 0 0 (va_A ws sz) := by
  refine Met.ofW (cc := cX12_gainBy) (maxL := 4) (ret := (some .int)) (by decide) rfl ?_
  intro p e s m args below meth c s₁ B0 hml hv
  obtain ⟨rfl, hsz, hP, hK, hD0, hE⟩ := hv
  have hx := B0.exec
  have hb := B0.bytes
  have hr := B0.returns
  have hts0 := atoms_spec (ws := ws_u yX12_gainBy cX12_gainBy 4 (some .int)) B0.pre
  have hts : ∀ w ∈ gT, w.before _ s = true := fun w h => hts0 w (List.mem_cons_of_mem _ h)
  have hown : s.vm.findClass RX12 = some m.cls := findClass_of_methodNamed B0.named
  have hlocks := B0.notSynchronized
  subst hsz
  have hD := hD0.self (sz := s.heap.size)
  generalize hAe : va_A ws s.heap.size = A at hD ⊢
  have hA : ∀ q : Nat, s.heap.size ≤ q → A q := fun q h => by rw [← hAe]; exact Or.inr h
  have hw : tW (dC, dI) tys κ B A s ws s.heap [] := ⟨hK, hP, hD, va_S.rf, hT⟩
  have hM : Sm [] [] κ ws ws := Sm.rf
  clear hP hK hD hD0 hts0
  have hl := lv_entry ([.ref a0, .int a1, .int a2, .int a3]) (n := 4) (Nat.le_of_ble_eq_true rfl)
  rw [lg_entry_eq]
  generalize (lg_sl ([.ref a0, .int a1, .int a2, .int a3]) ++ List.replicate (4 - (lg_sl ([.ref a0, .int a1, .int a2, .int a3])).length) Slot.unset).toArray = ls at hl ⊢
  have hl : lv_has ls 4 [(0, .ref a0), (1, .int a1), (2, .int a2), (3, .int a3)] := hl
  refine t_start (fun QQ hQ => ?_)
  refine lv_aload_n hx hb dX12_gainBy_0 rfl (lv_at hl 0 rfl) ?_
  refine t_getr (k1 := 68) (ci := 12) (C := RX12) (T := TX12) (N := 38) hx hb hts iX12 hown hw k_a0 rfl rfl rfl 29 (by decide) (hts _ tw_1154) (fun _ h9 => h9) dX12_gainBy_1 rfl (fun v1 k_v1 f_a0_X12_29 => ?_)
  refine lv_iload_n hx hb dX12_gainBy_4 rfl (lv_at hl 3 rfl) ?_
  refine t_iald hx hb hw k_v1 rfl rfl (by omega) (show a3.toInt < 25 by omega) dX12_gainBy_5 (fun v5 r_v5 s_v5 q_v5 => ?_)
  have l_v5 := i32_lo v5
  have h_v5 := i32_hi v5
  refine lv_iload_n hx hb dX12_gainBy_6 rfl (lv_at hl 1 rfl) ?_
  refine lv_icmp_ne (tgt := 19) hx hb dX12_gainBy_7 (by decide) (fun c_7 => ?_) (fun c_7 => ?_)
  · simp only [fa_lt, fa_le, fa_eq] at c_7
    refine lv_iconst (v := 0) hx hb dX12_gainBy_19 (by decide) ?_
    rw [hQ]
    refine W.widen (k := 0) (n := 0) (Nat.le_refl _) (Nat.le_refl _) ?_
    exact W.iret (v := 0) hx hb hr (fun t ht hW => ⟨⟨0, ws, rfl, ⟨(by decide), (by decide), hw.2.2.2.2, hM⟩, by rw [ht]; exact hw.2.1, va_K.moved hW.alike hw.1, hw.2.2.1⟩, hw.2.2.2.1.F ht⟩) hw.2.2.2.1.2.2 dX12_gainBy_20
  · simp only [fa_lt, fa_le, fa_eq] at c_7
    refine lv_bipush (v := 20) hx hb dX12_gainBy_10 (by decide) ?_
    refine lv_iconst (v := 5) hx hb dX12_gainBy_12 (by decide) ?_
    refine lv_iload_n hx hb dX12_gainBy_13 rfl (lv_at hl 2 rfl) ?_
    refine lv_imul hx hb dX12_gainBy_14 ?_
    refine lv_topi (fun v14 e_v14 => ?_)
    have e_v14 : v14.toInt = 5 * a2.toInt := ml_i e_v14 li_5 rfl (by omega) (by omega)
    refine lv_isub hx hb dX12_gainBy_15 ?_
    refine lv_topi (fun v15 e_v15 => ?_)
    have e_v15 : v15.toInt = 20 - v14.toInt := sb_i e_v15 li_20 rfl (by omega) (by omega)
    refine lv_goto (tgt := 20) hx hb dX12_gainBy_16 (by decide) ?_
    rw [hQ]
    refine W.widen (k := 0) (n := 0) (Nat.le_refl _) (Nat.le_refl _) ?_
    exact W.iret (v := v15) hx hb hr (fun t ht hW => ⟨⟨v15, ws, rfl, ⟨(by omega), (by omega), hw.2.2.2.2, hM⟩, by rw [ht]; exact hw.2.1, va_K.moved hW.alike hw.1, hw.2.2.1⟩, hw.2.2.2.1.F ht⟩) hw.2.2.2.1.2.2 dX12_gainBy_20
set_option maxHeartbeats 4000000 in
set_option maxRecDepth 100000 in
theorem t_X12_give (l : Launch) (dC : Nat → ClassId) (dI : Nat → Nat → Nat) (tys : List (ClassId × FieldType)) (κ : tK) (B : Nat) (ws : va_W) (hT : Ty κ tys B ws) (a0 : Nat) (k_a0 : κ a0 = some 12) (a1 : Int32) (a2 : Int32) (f0 : Nat) (k_f0 : κ f0 = some 63) (f_a0_X12_20 : fld ws a0 12 20 (.ref f0)) (f1 : Int32) (l_f1 : 0 ≤ f1.toInt) (h_f1 : f1.toInt ≤ 999) (f_f0_M_said_10 : elt ws f0 (10 : Int32).toInt.toNat f1) (sz : Nat) : Met l yX12_give (ws_u yX12_give cX12_give 3 (some .int)) ({ frames := 2, cells := 0, slots := 0, locals := 43 }) (va_Pc [.ref a0, .int a1, .int a2] (cPre (dC, dI) tys ws sz)) (va_Qi (fun (r : Int32) (w : va_W) => Ty κ tys B w ∧ Sm [(12, 26)] [63, 65] κ ws w ∧ elt w f0 (10 : Int32).toInt.toNat f1) (fun w t => cPost (dC, dI) tys w (va_A ws sz) t) (va_A ws sz)) 0 0 (va_A ws sz) := by
  refine Met.ofW (cc := cX12_give) (maxL := 3) (ret := (some .int)) (by decide) rfl ?_
  intro p e s m args below meth c s₁ B0 hml hv
  obtain ⟨rfl, hsz, hP, hK, hD0, hE⟩ := hv
  have hx := B0.exec
  have hb := B0.bytes
  have hr := B0.returns
  have hts0 := atoms_spec (ws := ws_u yX12_give cX12_give 3 (some .int)) B0.pre
  have hts : ∀ w ∈ gT, w.before _ s = true := fun w h => hts0 w (List.mem_cons_of_mem _ h)
  have hown : s.vm.findClass RX12 = some m.cls := findClass_of_methodNamed B0.named
  have hlocks := B0.notSynchronized
  subst hsz
  have hD := hD0.self (sz := s.heap.size)
  generalize hAe : va_A ws s.heap.size = A at hD ⊢
  have hA : ∀ q : Nat, s.heap.size ≤ q → A q := fun q h => by rw [← hAe]; exact Or.inr h
  have hw : tW (dC, dI) tys κ B A s ws s.heap [] := ⟨hK, hP, hD, va_S.rf, hT⟩
  have hM : Sm [(12, 26)] [63, 65] κ ws ws := Sm.rf
  clear hP hK hD hD0 hts0
  have l_a1 := i32_lo a1
  have h_a1 := i32_hi a1
  have l_a2 := i32_lo a2
  have h_a2 := i32_hi a2
  have hl := lv_entry ([.ref a0, .int a1, .int a2]) (n := 3) (Nat.le_of_ble_eq_true rfl)
  rw [lg_entry_eq]
  generalize (lg_sl ([.ref a0, .int a1, .int a2]) ++ List.replicate (3 - (lg_sl ([.ref a0, .int a1, .int a2])).length) Slot.unset).toArray = ls at hl ⊢
  have hl : lv_has ls 3 [(0, .ref a0), (1, .int a1), (2, .int a2)] := hl
  refine t_start (fun QQ hQ => ?_)
  refine lv_aload_n hx hb dX12_give_0 rfl (lv_at hl 0 rfl) ?_
  refine lv_iload_n hx hb dX12_give_1 rfl (lv_at hl 1 rfl) ?_
  refine t_calli (va_runV (As := [.int a1]) (rest := []) ⟨hx, hb, hml, hown, hts⟩ (t_X12_isCanon l dC dI tys κ B ws hw.2.2.2.2 a0 k_a0 a1 s.heap.size) (cwV 1 hts (gUV tw_1465 tw_1467 ts_5_9 tw_13 tw_1468) rfl rfl rfl (by decide +kernel) ⟨(Nat.le_of_ble_eq_true rfl), (Nat.le_of_ble_eq_true rfl)⟩) ⟨cPre.blind, t_recv hw (ci := 12) k_a0 rfl rfl, cPre.use hw.2.1 hw.1 hw.2.2.1 hE⟩ rfl rfl hl.1 rfl (lv_room (Nat.le_of_ble_eq_true rfl)) dX12_give_2 ⟨(Nat.le_of_ble_eq_true rfl), (Nat.le_of_ble_eq_true rfl)⟩) hw hA (fun _ _ h => h.2.2.1) (fun v2 w_1 H locs hp hw => ?_)
  obtain ⟨l_v2, h_v2, _, hm, x_v2_0⟩ := hp
  have hM := hM.trans hm (by decide) (by decide)
  have f_a0_X12_20 := hm.1 _ _ _ _ f_a0_X12_20 (by decide)
  have f_f0_M_said_10 := hm.elt k_f0 (by decide) f_f0_M_said_10
  refine lv_if_eq (tgt := 35) hx hb dX12_give_5 (by decide) (fun c_5 => ?_) (fun c_5 => ?_)
  · simp only [fa_lt, fa_le, fa_eq, li_0] at c_5
    refine lv_iconst (v := (-1)) hx hb dX12_give_35 (by decide) ?_
    rw [hQ]
    refine W.widen (k := 0) (n := 0) (Nat.le_refl _) (Nat.le_refl _) ?_
    exact W.iret (v := (-1)) hx hb hr (fun t ht hW => ⟨⟨(-1), w_1, rfl, ⟨hw.2.2.2.2, hM, f_f0_M_said_10⟩, by rw [ht]; exact hw.2.1, va_K.moved hW.alike hw.1, hw.2.2.1⟩, hw.2.2.2.1.F ht⟩) hw.2.2.2.1.2.2 dX12_give_36
  · simp only [fa_lt, fa_le, fa_eq, li_0] at c_5
    refine lv_aload_n hx hb dX12_give_8 rfl (lv_at hl 0 rfl) ?_
    refine lv_iload_n hx hb dX12_give_9 rfl (lv_at hl 2 rfl) ?_
    refine t_calli (va_runV (As := [.int a2]) (rest := []) ⟨hx, hb, hml, hown, hts⟩ (t_X12_isAlive l dC dI tys κ B w_1 hw.2.2.2.2 a0 k_a0 a2 H.size) (cwV 1 hts (gUV tw_1571 tw_1573 ts_6_15 tw_13 tw_1574) rfl rfl rfl (by decide +kernel) ⟨(Nat.le_of_ble_eq_true rfl), (Nat.le_of_ble_eq_true rfl)⟩) ⟨cPre.blind, t_recv hw (ci := 12) k_a0 rfl rfl, cPre.use hw.2.1 hw.1 hw.2.2.1 hE⟩ rfl rfl hl.1 rfl (lv_room (Nat.le_of_ble_eq_true rfl)) dX12_give_10 ⟨(Nat.le_of_ble_eq_true rfl), (Nat.le_of_ble_eq_true rfl)⟩) hw hA (fun _ _ h => h.2.2.1) (fun v10 w_2 H locs hp hw => ?_)
    obtain ⟨l_v10, h_v10, _, hm, x_v10_0⟩ := hp
    have hM := hM.trans hm (by decide) (by decide)
    have f_a0_X12_20 := hm.1 _ _ _ _ f_a0_X12_20 (by decide)
    have f_f0_M_said_10 := hm.elt k_f0 (by decide) f_f0_M_said_10
    refine lv_if_eq (tgt := 35) hx hb dX12_give_13 (by decide) (fun c_13 => ?_) (fun c_13 => ?_)
    · simp only [fa_lt, fa_le, fa_eq, li_0] at c_13
      refine lv_iconst (v := (-1)) hx hb dX12_give_35 (by decide) ?_
      rw [hQ]
      refine W.widen (k := 0) (n := 0) (Nat.le_refl _) (Nat.le_refl _) ?_
      exact W.iret (v := (-1)) hx hb hr (fun t ht hW => ⟨⟨(-1), w_2, rfl, ⟨hw.2.2.2.2, hM, f_f0_M_said_10⟩, by rw [ht]; exact hw.2.1, va_K.moved hW.alike hw.1, hw.2.2.1⟩, hw.2.2.2.1.F ht⟩) hw.2.2.2.1.2.2 dX12_give_36
    · simp only [fa_lt, fa_le, fa_eq, li_0] at c_13
      refine lv_aload_n hx hb dX12_give_16 rfl (lv_at hl 0 rfl) ?_
      refine t_getk (ci := 12) (C := RX12) (T := TX12) (N := 38) hx hb hts iX12 hown hw rfl 20 (by decide) (hts _ tw_1145) (fun _ h9 => h9) dX12_give_17 f_a0_X12_20 ?_
      refine lv_bipush (v := 11) hx hb dX12_give_20 (by decide) ?_
      refine t_iald hx hb hw k_f0 rfl rfl (by decide) (by decide) dX12_give_22 (fun v22 r_v22 s_v22 f_f0_M_said_11 => ?_)
      have l_v22 : (-1) ≤ v22.toInt := by rw [iv_63_11] at r_v22; exact r_v22
      have h_v22 : v22.toInt ≤ 5 := by rw [iv_63_11] at s_v22; exact s_v22
      refine lv_if_lt (tgt := 35) hx hb dX12_give_23 (by decide) (fun c_23 => ?_) (fun c_23 => ?_)
      · simp only [fa_lt, fa_le, fa_eq, li_0] at c_23
        refine lv_iconst (v := (-1)) hx hb dX12_give_35 (by decide) ?_
        rw [hQ]
        refine W.widen (k := 0) (n := 0) (Nat.le_refl _) (Nat.le_refl _) ?_
        exact W.iret (v := (-1)) hx hb hr (fun t ht hW => ⟨⟨(-1), w_2, rfl, ⟨hw.2.2.2.2, hM, f_f0_M_said_10⟩, by rw [ht]; exact hw.2.1, va_K.moved hW.alike hw.1, hw.2.2.1⟩, hw.2.2.2.1.F ht⟩) hw.2.2.2.1.2.2 dX12_give_36
      · simp only [fa_lt, fa_le, fa_eq, li_0] at c_23
        refine lv_aload_n hx hb dX12_give_26 rfl (lv_at hl 0 rfl) ?_
        refine lv_iload_n hx hb dX12_give_27 rfl (lv_at hl 1 rfl) ?_
        refine lv_iconst (v := 1) hx hb dX12_give_28 (by decide) ?_
        refine t_calli (va_runV (As := [.int a1, .int 1]) (rest := []) ⟨hx, hb, hml, hown, hts⟩ (t_X12_canonOf l dC dI tys κ B w_2 hw.2.2.2.2 a0 k_a0 a1 (by omega) (by omega) 1 (by decide) (by decide) H.size) (cwV 2 hts (gUV tw_1469 tw_1471 ts_5_10 tw_13 tw_1472) rfl rfl rfl (by decide +kernel) ⟨(Nat.le_of_ble_eq_true rfl), (Nat.le_of_ble_eq_true rfl)⟩) ⟨cPre.blind, t_recv hw (ci := 12) k_a0 rfl rfl, cPre.use hw.2.1 hw.1 hw.2.2.1 hE⟩ rfl rfl hl.1 rfl (lv_room (Nat.le_of_ble_eq_true rfl)) dX12_give_29 ⟨(Nat.le_of_ble_eq_true rfl), (Nat.le_of_ble_eq_true rfl)⟩) hw hA (fun _ _ h => h.1) (fun v29 w_3 H locs hp hw => ?_)
        obtain ⟨_, hm⟩ := hp
        have l_v29 := i32_lo v29
        have h_v29 := i32_hi v29
        have hM := hM.trans hm (by decide) (by decide)
        have f_a0_X12_20 := hm.1 _ _ _ _ f_a0_X12_20 (by decide)
        have f_f0_M_said_10 := hm.elt k_f0 (by decide) f_f0_M_said_10
        have f_f0_M_said_11 := hm.elt k_f0 (by decide) f_f0_M_said_11
        refine lv_if_ne (tgt := 37) hx hb dX12_give_32 (by decide) (fun c_32 => ?_) (fun c_32 => ?_)
        · simp only [fa_lt, fa_le, fa_eq, li_0] at c_32
          refine lv_aload_n hx hb dX12_give_37 rfl (lv_at hl 0 rfl) ?_
          refine t_callv (va_runV (As := []) (rest := []) ⟨hx, hb, hml, hown, hts⟩ (t_X12_keepsAct l dC dI tys κ B w_3 hw.2.2.2.2 a0 k_a0 f0 k_f0 f_a0_X12_20 f1 (by omega) (by omega) f_f0_M_said_10 H.size) (cwV 0 hts (gUV tw_1493 tw_1495 ts_5_13 tw_13 tw_1496) rfl rfl rfl (by decide +kernel) ⟨(Nat.le_of_ble_eq_true rfl), (Nat.le_of_ble_eq_true rfl)⟩) ⟨cPre.blind, t_recv hw (ci := 12) k_a0 rfl rfl, cPre.use hw.2.1 hw.1 hw.2.2.1 hE⟩ rfl rfl hl.1 rfl (lv_room (Nat.le_of_ble_eq_true rfl)) dX12_give_38 ⟨(Nat.le_of_ble_eq_true rfl), (Nat.le_of_ble_eq_true rfl)⟩) hw hA (fun _ h => h.1) (fun w_4 H locs hp hw => ?_)
          obtain ⟨_, hm⟩ := hp
          have hM := hM.trans hm (by decide) (by decide)
          have f_a0_X12_20 := hm.1 _ _ _ _ f_a0_X12_20 (by decide)
          have f_f0_M_said_10 := hm.elt k_f0 (by decide) f_f0_M_said_10
          have f_f0_M_said_11 := hm.elt k_f0 (by decide) f_f0_M_said_11
          refine lv_aload_n hx hb dX12_give_41 rfl (lv_at hl 0 rfl) ?_
          refine t_getk (ci := 12) (C := RX12) (T := TX12) (N := 38) hx hb hts iX12 hown hw rfl 20 (by decide) (hts _ tw_1145) (fun _ h9 => h9) dX12_give_42 f_a0_X12_20 ?_
          refine lv_bipush (v := 40) hx hb dX12_give_45 (by decide) ?_
          refine lv_iconst (v := 3) hx hb dX12_give_47 (by decide) ?_
          refine lv_iload_n hx hb dX12_give_48 rfl (lv_at hl 1 rfl) ?_
          refine lv_imul hx hb dX12_give_49 ?_
          refine lv_topi (fun v49 e_v49 => ?_)
          have e_v49 : v49.toInt = 3 * a1.toInt := ml_i e_v49 li_3 rfl (by omega) (by omega)
          refine lv_iadd hx hb dX12_give_50 ?_
          refine lv_topi (fun v50 e_v50 => ?_)
          have e_v50 : v50.toInt = 40 + v49.toInt := ad_i e_v50 li_40 rfl (by omega) (by omega)
          refine lv_iconst (v := 1) hx hb dX12_give_51 (by decide) ?_
          refine lv_iadd hx hb dX12_give_52 ?_
          refine lv_topi (fun v52 e_v52 => ?_)
          have e_v52 : v52.toInt = v50.toInt + 1 := ad_i e_v52 rfl li_1 (by omega) (by omega)
          refine lv_iconst (v := 0) hx hb dX12_give_53 (by decide) ?_
          refine t_iast hx hb hw k_f0 rfl rfl (by omega) (show v52.toInt < 306 by omega) (by rw [fr_63 (by omega) (by omega)]; exact i32_lo _) (by rw [fr_63 (by omega) (by omega)]; exact i32_hi _) dX12_give_54 (fun w_5 H locs hw u => ?_)
          have hM := hM.up3 u k_f0 (by decide)
          have f_a0_X12_20 := u.1 _ _ _ _ f_a0_X12_20
          have f_f0_M_said_10 := u.2.2.1 _ _ _ f_f0_M_said_10 (Or.inr (by rw [show (10 : Int32).toInt.toNat = 10 by decide]; omega))
          have f_f0_M_said_11 := u.2.2.1 _ _ _ f_f0_M_said_11 (Or.inr (by rw [show (11 : Int32).toInt.toNat = 11 by decide]; omega))
          refine lv_aload_n hx hb dX12_give_55 rfl (lv_at hl 0 rfl) ?_
          refine t_getk (ci := 12) (C := RX12) (T := TX12) (N := 38) hx hb hts iX12 hown hw rfl 20 (by decide) (hts _ tw_1145) (fun _ h9 => h9) dX12_give_56 f_a0_X12_20 ?_
          refine lv_bipush (v := 40) hx hb dX12_give_59 (by decide) ?_
          refine lv_iconst (v := 3) hx hb dX12_give_61 (by decide) ?_
          refine lv_iload_n hx hb dX12_give_62 rfl (lv_at hl 2 rfl) ?_
          refine lv_imul hx hb dX12_give_63 ?_
          refine lv_topi (fun v63 e_v63 => ?_)
          have e_v63 : v63.toInt = 3 * a2.toInt := ml_i e_v63 li_3 rfl (by omega) (by omega)
          refine lv_iadd hx hb dX12_give_64 ?_
          refine lv_topi (fun v64 e_v64 => ?_)
          have e_v64 : v64.toInt = 40 + v63.toInt := ad_i e_v64 li_40 rfl (by omega) (by omega)
          refine lv_iconst (v := 2) hx hb dX12_give_65 (by decide) ?_
          refine lv_iadd hx hb dX12_give_66 ?_
          refine lv_topi (fun v66 e_v66 => ?_)
          have e_v66 : v66.toInt = v64.toInt + 2 := ad_i e_v66 rfl li_2 (by omega) (by omega)
          refine lv_iload_n hx hb dX12_give_67 rfl (lv_at hl 1 rfl) ?_
          refine t_iast hx hb hw k_f0 rfl rfl (by omega) (show v66.toInt < 306 by omega) (by rw [fr_63 (by omega) (by omega)]; exact i32_lo _) (by rw [fr_63 (by omega) (by omega)]; exact i32_hi _) dX12_give_68 (fun w_6 H locs hw u => ?_)
          have hM := hM.up3 u k_f0 (by decide)
          have f_a0_X12_20 := u.1 _ _ _ _ f_a0_X12_20
          have f_f0_M_said_10 := u.2.2.1 _ _ _ f_f0_M_said_10 (Or.inr (by rw [show (10 : Int32).toInt.toNat = 10 by decide]; omega))
          have f_f0_M_said_11 := u.2.2.1 _ _ _ f_f0_M_said_11 (Or.inr (by rw [show (11 : Int32).toInt.toNat = 11 by decide]; omega))
          refine lv_aload_n hx hb dX12_give_69 rfl (lv_at hl 0 rfl) ?_
          refine t_getk (ci := 12) (C := RX12) (T := TX12) (N := 38) hx hb hts iX12 hown hw rfl 20 (by decide) (hts _ tw_1145) (fun _ h9 => h9) dX12_give_70 f_a0_X12_20 ?_
          refine lv_bipush (v := 110) hx hb dX12_give_73 (by decide) ?_
          refine lv_iload_n hx hb dX12_give_75 rfl (lv_at hl 1 rfl) ?_
          refine lv_iadd hx hb dX12_give_76 ?_
          refine lv_topi (fun v76 e_v76 => ?_)
          have e_v76 : v76.toInt = 110 + a1.toInt := ad_i e_v76 li_110 rfl (by omega) (by omega)
          refine t_iald hx hb hw k_f0 rfl rfl (by omega) (show v76.toInt < 306 by omega) dX12_give_77 (fun v77 r_v77 s_v77 q_v77 => ?_)
          have l_v77 := i32_lo v77
          have h_v77 := i32_hi v77
          rw [hQ]
          refine W.widen (k := 0) (n := 0) (Nat.le_refl _) (Nat.le_refl _) ?_
          exact W.iret (v := v77) hx hb hr (fun t ht hW => ⟨⟨v77, w_6, rfl, ⟨hw.2.2.2.2, hM, f_f0_M_said_10⟩, by rw [ht]; exact hw.2.1, va_K.moved hW.alike hw.1, hw.2.2.1⟩, hw.2.2.2.1.F ht⟩) hw.2.2.2.1.2.2 dX12_give_78
        · simp only [fa_lt, fa_le, fa_eq, li_0] at c_32
          refine lv_iconst (v := (-1)) hx hb dX12_give_35 (by decide) ?_
          rw [hQ]
          refine W.widen (k := 0) (n := 0) (Nat.le_refl _) (Nat.le_refl _) ?_
          exact W.iret (v := (-1)) hx hb hr (fun t ht hW => ⟨⟨(-1), w_3, rfl, ⟨hw.2.2.2.2, hM, f_f0_M_said_10⟩, by rw [ht]; exact hw.2.1, va_K.moved hW.alike hw.1, hw.2.2.1⟩, hw.2.2.2.1.F ht⟩) hw.2.2.2.1.2.2 dX12_give_36
set_option maxHeartbeats 4000000 in
set_option maxRecDepth 100000 in
theorem t_X12_goneTill (l : Launch) (dC : Nat → ClassId) (dI : Nat → Nat → Nat) (tys : List (ClassId × FieldType)) (κ : tK) (B : Nat) (ws : va_W) (hT : Ty κ tys B ws) (a0 : Nat) (k_a0 : κ a0 = some 12) (a1 : Int32) (l_a1 : 0 ≤ a1.toInt) (h_a1 : a1.toInt ≤ 63) (a2 : Int32) (l_a2 : 0 ≤ a2.toInt) (h_a2 : a2.toInt ≤ 5) (sz : Nat) : Met l yX12_goneTill (ws_u yX12_goneTill cX12_goneTill 7 (some .int)) ({ frames := 1, cells := 0, slots := 0, locals := 22 }) (va_Pc [.ref a0, .int a1, .int a2] (cPre (dC, dI) tys ws sz)) (va_Qi (fun (r : Int32) (w : va_W) => Ty κ tys B w ∧ Sm [] [] κ ws w) (fun w t => cPost (dC, dI) tys w (va_A ws sz) t) (va_A ws sz)) 0 0 (va_A ws sz) := by
  refine Met.ofW (cc := cX12_goneTill) (maxL := 7) (ret := (some .int)) (by decide) rfl ?_
  intro p e s m args below meth c s₁ B0 hml hv
  obtain ⟨rfl, hsz, hP, hK, hD0, hE⟩ := hv
  have hx := B0.exec
  have hb := B0.bytes
  have hr := B0.returns
  have hts0 := atoms_spec (ws := ws_u yX12_goneTill cX12_goneTill 7 (some .int)) B0.pre
  have hts : ∀ w ∈ gT, w.before _ s = true := fun w h => hts0 w (List.mem_cons_of_mem _ h)
  have hown : s.vm.findClass RX12 = some m.cls := findClass_of_methodNamed B0.named
  have hlocks := B0.notSynchronized
  subst hsz
  have hD := hD0.self (sz := s.heap.size)
  generalize hAe : va_A ws s.heap.size = A at hD ⊢
  have hA : ∀ q : Nat, s.heap.size ≤ q → A q := fun q h => by rw [← hAe]; exact Or.inr h
  have hw : tW (dC, dI) tys κ B A s ws s.heap [] := ⟨hK, hP, hD, va_S.rf, hT⟩
  have hM : Sm [] [] κ ws ws := Sm.rf
  clear hP hK hD hD0 hts0
  have hl := lv_entry ([.ref a0, .int a1, .int a2]) (n := 7) (Nat.le_of_ble_eq_true rfl)
  rw [lg_entry_eq]
  generalize (lg_sl ([.ref a0, .int a1, .int a2]) ++ List.replicate (7 - (lg_sl ([.ref a0, .int a1, .int a2])).length) Slot.unset).toArray = ls at hl ⊢
  have hl : lv_has ls 7 [(0, .ref a0), (1, .int a1), (2, .int a2)] := hl
  refine t_start (fun QQ hQ => ?_)
  refine lv_iload_n hx hb dX12_goneTill_0 rfl (lv_at hl 1 rfl) ?_
  refine lv_iconst (v := 1) hx hb dX12_goneTill_1 (by decide) ?_
  refine lv_iload_n hx hb dX12_goneTill_2 rfl (lv_at hl 2 rfl) ?_
  refine lv_ishl hx hb dX12_goneTill_3 ?_
  refine lv_topi (fun v3 e_v3 => ?_)
  have ⟨l_v3, h_v3⟩ := sh_i e_v3 (by omega) (by omega)
  refine lv_iconst (v := (-1)) hx hb dX12_goneTill_4 (by decide) ?_
  refine lv_ixor hx hb dX12_goneTill_5 ?_
  refine lv_topi (fun v5 e_v5 => ?_)
  have l_v5 := i32_lo v5
  have h_v5 := i32_hi v5
  refine lv_iand hx hb dX12_goneTill_6 ?_
  refine lv_topi (fun v6 e_v6 => ?_)
  have ⟨l_v6, h_v6⟩ : 0 ≤ v6.toInt ∧ v6.toInt ≤ a1.toInt := and_l e_v6 rfl (by omega)
  refine lv_istore_n (lv' := [(3, .int v6), (0, .ref a0), (1, .int a1), (2, .int a2)]) hx hb dX12_goneTill_7 rfl hl (by decide) rfl (fun ls hl => ?_)
  refine lv_iload_n hx hb dX12_goneTill_8 rfl (lv_at hl 0 rfl) ?_
  refine lv_if_ne (tgt := 21) hx hb dX12_goneTill_9 (by decide) (fun c_9 => ?_) (fun c_9 => ?_)
  · simp only [fa_lt, fa_le, fa_eq, li_0] at c_9
    refine lv_sipush (v := 999) hx hb dX12_goneTill_21 (by decide) ?_
    refine lv_istore (lv' := [(4, .int 999), (3, .int v6), (0, .ref a0), (1, .int a1), (2, .int a2)]) hx hb dX12_goneTill_24 hl (by decide) rfl (fun ls hl => ?_)
    refine lv_iconst (v := 0) hx hb dX12_goneTill_26 (by decide) ?_
    refine lv_istore (lv' := [(5, .int 0), (4, .int 999), (3, .int v6), (0, .ref a0), (1, .int a1), (2, .int a2)]) hx hb dX12_goneTill_27 hl (by decide) rfl (fun ls hl => ?_)
    have J29 : ∀ (n : Nat) (H : Heap) (locs : List Loc) (ls : Array Slot), (∃ (w29 : va_W) (p29_l4 : Int32) (p29_l5 : Int32), tW (dC, dI) tys κ B A s w29 H locs ∧ Sm [] [] κ ws w29 ∧ (-2147483648) ≤ p29_l4.toInt ∧ p29_l4.toInt ≤ 999 ∧ 0 ≤ p29_l5.toInt ∧ p29_l5.toInt ≤ 6 ∧ lv_has ls 7 [(0, .ref a0), (1, .int a1), (2, .int a2), (3, .int v6), (4, .int p29_l4), (5, .int p29_l5)] ∧ (6 - p29_l5.toInt).toNat = n) → W p l e (headSpec (ws_u yX12_goneTill cX12_goneTill 7 (some .int)) ({ frames := 1, cells := 0, slots := 0, locals := 22 })).room s m ([.ref a0, .int a1, .int a2] : List Value).toArray below meth c H locs 0 0 QQ (F0 m 29 ls []) := by
      refine loopT _ ?_
      intro n_29 H locs ls hI ih_29
      obtain ⟨w29, p29_l4, p29_l5, hw, hM, l_p29_l4, h_p29_l4, l_p29_l5, h_p29_l5, hl, hn_29⟩ := hI
      refine lv_iload hx hb dX12_goneTill_29 (lv_at hl 5 rfl) ?_
      refine lv_aload_n hx hb dX12_goneTill_31 rfl (lv_at hl 0 rfl) ?_
      refine t_getr (k1 := 63) (ci := 12) (C := RX12) (T := TX12) (N := 38) hx hb hts iX12 hown hw k_a0 rfl rfl rfl 20 (by decide) (hts _ tw_1145) (fun _ h9 => h9) dX12_goneTill_32 rfl (fun v32 k_v32 f_a0_X12_20 => ?_)
      refine lv_iconst (v := 5) hx hb dX12_goneTill_35 (by decide) ?_
      refine t_iald hx hb hw k_v32 rfl rfl (by decide) (by decide) dX12_goneTill_36 (fun v36 r_v36 s_v36 f_v32_M_said_5 => ?_)
      have l_v36 : 0 ≤ v36.toInt := by rw [iv_63_5] at r_v36; exact r_v36
      have h_v36 : v36.toInt ≤ 6 := by rw [iv_63_5] at s_v36; exact s_v36
      refine lv_icmp_ge (tgt := 100) hx hb dX12_goneTill_37 (by decide) (fun c_37 => ?_) (fun c_37 => ?_)
      · simp only [fa_lt, fa_le, fa_eq] at c_37
        refine lv_iload hx hb dX12_goneTill_100 (lv_at hl 4 rfl) ?_
        rw [hQ]
        refine W.widen (k := 0) (n := 0) (Nat.le_refl _) (Nat.le_refl _) ?_
        exact W.iret (v := p29_l4) hx hb hr (fun t ht hW => ⟨⟨p29_l4, w29, rfl, ⟨hw.2.2.2.2, hM⟩, by rw [ht]; exact hw.2.1, va_K.moved hW.alike hw.1, hw.2.2.1⟩, hw.2.2.2.1.F ht⟩) hw.2.2.2.1.2.2 dX12_goneTill_102
      · simp only [fa_lt, fa_le, fa_eq] at c_37
        refine lv_iload_n hx hb dX12_goneTill_40 rfl (lv_at hl 3 rfl) ?_
        refine lv_iload hx hb dX12_goneTill_41 (lv_at hl 5 rfl) ?_
        refine t_calli (va_runS (As := [.int v6, .int p29_l5]) (rest := []) ⟨hx, hb, hml, hown, hts⟩ (t_X12_isOf l dC dI tys κ B w29 hw.2.2.2.2 v6 p29_l5 (by omega) (by omega) H.size) (va_cwS 2 hts (gUS tw_1637 tw_1638 tw_13 tw_1639) rfl rfl rfl (by decide +kernel) ⟨(Nat.le_of_ble_eq_true rfl), (Nat.le_of_ble_eq_true rfl)⟩) ⟨cPre.blind, cPre.use hw.2.1 hw.1 hw.2.2.1 hE⟩ rfl rfl hl.1 rfl (lv_room (Nat.le_of_ble_eq_true rfl)) dX12_goneTill_43 ⟨(Nat.le_of_ble_eq_true rfl), (Nat.le_of_ble_eq_true rfl)⟩) hw hA (fun _ _ h => h.2.2.1) (fun v43 w_1 H locs hp hw => ?_)
        obtain ⟨l_v43, h_v43, _, hm, x_v43_0⟩ := hp
        have hM := hM.trans hm (by decide) (by decide)
        have f_a0_X12_20 := hm.1 _ _ _ _ f_a0_X12_20 (by decide)
        have f_v32_M_said_5 := hm.elt k_v32 (by decide) f_v32_M_said_5
        have J94 : ∀ (H : Heap) (locs : List Loc) (ls : Array Slot) (w94 : va_W) (p94_l4 : Int32), tW (dC, dI) tys κ B A s w94 H locs → Sm [] [] κ ws w94 → (-2147483648) ≤ p94_l4.toInt → p94_l4.toInt ≤ 999 → fld w94 a0 12 20 (.ref v32) → elt w94 v32 (5 : Int32).toInt.toNat v36 → lv_has ls 7 [(0, .ref a0), (1, .int a1), (2, .int a2), (3, .int v6), (4, .int p94_l4), (5, .int p29_l5)] → W p l e (headSpec (ws_u yX12_goneTill cX12_goneTill 7 (some .int)) ({ frames := 1, cells := 0, slots := 0, locals := 22 })).room s m ([.ref a0, .int a1, .int a2] : List Value).toArray below meth c H locs 0 0 QQ (F0 m 94 ls []) := by
          intro H locs ls w94 p94_l4 hw hM l_p94_l4 h_p94_l4 f_a0_X12_20 f_v32_M_said_5 hl
          obtain ⟨v94, e_v94⟩ : ∃ y : Int32, y = p29_l5 + 1 := ⟨_, rfl⟩
          refine lv_iinc (v := v94) (lv' := [(5, .int v94), (0, .ref a0), (1, .int a1), (2, .int a2), (3, .int v6), (4, .int p94_l4)]) hx hb dX12_goneTill_94 hl (k := 5) rfl e_v94.symm (by decide) rfl (fun ls hl => ?_)
          have e_v94 : v94.toInt = p29_l5.toInt + 1 := ad_i e_v94 rfl li_1 (by omega) (by omega)
          refine lv_goto (tgt := 29) hx hb dX12_goneTill_97 (by decide) ?_
          exact ih_29 _ _ _ _ (by omega) ⟨w94, p94_l4, v94, hw, hM, (by omega), (by omega), (by omega), (by omega), (lv_sub hl [1, 2, 3, 4, 5, 0] rfl), rfl⟩
        refine lv_if_ne (tgt := 52) hx hb dX12_goneTill_46 (by decide) (fun c_46 => ?_) (fun c_46 => ?_)
        · simp only [fa_lt, fa_le, fa_eq, li_0] at c_46
          refine lv_aload_n hx hb dX12_goneTill_52 rfl (lv_at hl 0 rfl) ?_
          refine t_getr (k1 := 69) (ci := 12) (C := RX12) (T := TX12) (N := 38) hx hb hts iX12 hown hw k_a0 rfl rfl rfl 30 (by decide) (hts _ tw_1155) (fun _ h9 => h9) dX12_goneTill_53 rfl (fun v53 k_v53 f_a0_X12_30 => ?_)
          refine lv_bipush (v := 6) hx hb dX12_goneTill_56 (by decide) ?_
          refine lv_iload_n hx hb dX12_goneTill_58 rfl (lv_at hl 3 rfl) ?_
          refine lv_imul hx hb dX12_goneTill_59 ?_
          refine lv_topi (fun v59 e_v59 => ?_)
          have e_v59 : v59.toInt = 6 * v6.toInt := ml_i e_v59 li_6 rfl (by omega) (by omega)
          refine lv_iload hx hb dX12_goneTill_60 (lv_at hl 5 rfl) ?_
          refine lv_iadd hx hb dX12_goneTill_62 ?_
          refine lv_topi (fun v62 e_v62 => ?_)
          have e_v62 : v62.toInt = v59.toInt + p29_l5.toInt := ad_i e_v62 rfl rfl (by omega) (by omega)
          refine t_iald hx hb hw k_v53 rfl rfl (by omega) (show v62.toInt < 384 by omega) dX12_goneTill_63 (fun v63 r_v63 s_v63 q_v63 => ?_)
          have l_v63 := i32_lo v63
          have h_v63 := i32_hi v63
          refine lv_aload_n hx hb dX12_goneTill_64 rfl (lv_at hl 0 rfl) ?_
          refine lv_iload hx hb dX12_goneTill_65 (lv_at hl 5 rfl) ?_
          refine lv_iconst (v := 1) hx hb dX12_goneTill_67 (by decide) ?_
          refine lv_iadd hx hb dX12_goneTill_68 ?_
          refine lv_topi (fun v68 e_v68 => ?_)
          have e_v68 : v68.toInt = p29_l5.toInt + 1 := ad_i e_v68 rfl li_1 (by omega) (by omega)
          refine lv_iload_n hx hb dX12_goneTill_69 rfl (lv_at hl 2 rfl) ?_
          refine lv_iconst (v := 1) hx hb dX12_goneTill_70 (by decide) ?_
          refine lv_iadd hx hb dX12_goneTill_71 ?_
          refine lv_topi (fun v71 e_v71 => ?_)
          have e_v71 : v71.toInt = a2.toInt + 1 := ad_i e_v71 rfl li_1 (by omega) (by omega)
          refine t_calli (va_runV (As := [.int v68, .int v71]) (rest := [.int v63]) ⟨hx, hb, hml, hown, hts⟩ (t_X12_farOf l dC dI tys κ B w_1 hw.2.2.2.2 a0 k_a0 v68 (by omega) (by omega) v71 (by omega) (by omega) H.size) (cwV 2 hts (gUV tw_1428 tw_1430 ts_5_4 tw_13 tw_1431) rfl rfl rfl (by decide +kernel) ⟨(Nat.le_of_ble_eq_true rfl), (Nat.le_of_ble_eq_true rfl)⟩) ⟨cPre.blind, t_recv hw (ci := 12) k_a0 rfl rfl, cPre.use hw.2.1 hw.1 hw.2.2.1 hE⟩ rfl rfl hl.1 rfl (lv_room (Nat.le_of_ble_eq_true rfl)) dX12_goneTill_72 ⟨(Nat.le_of_ble_eq_true rfl), (Nat.le_of_ble_eq_true rfl)⟩) hw hA (fun _ _ h => h.1) (fun v72 w_2 H locs hp hw => ?_)
          obtain ⟨_, hm⟩ := hp
          have l_v72 := i32_lo v72
          have h_v72 := i32_hi v72
          have hM := hM.trans hm (by decide) (by decide)
          have f_a0_X12_20 := hm.1 _ _ _ _ f_a0_X12_20 (by decide)
          have f_v32_M_said_5 := hm.elt k_v32 (by decide) f_v32_M_said_5
          have f_a0_X12_30 := hm.1 _ _ _ _ f_a0_X12_30 (by decide)
          refine lv_iadd hx hb dX12_goneTill_75 ?_
          refine lv_topi (fun v75 e_v75 => ?_)
          have l_v75 := i32_lo v75
          have h_v75 := i32_hi v75
          refine lv_istore (lv' := [(6, .int v75), (0, .ref a0), (1, .int a1), (2, .int a2), (3, .int v6), (4, .int p29_l4), (5, .int p29_l5)]) hx hb dX12_goneTill_76 hl (by decide) rfl (fun ls hl => ?_)
          refine lv_iload hx hb dX12_goneTill_78 (lv_at hl 0 rfl) ?_
          refine lv_iload hx hb dX12_goneTill_80 (lv_at hl 5 rfl) ?_
          have J92 : ∀ (H : Heap) (locs : List Loc) (ls : Array Slot) (w92 : va_W) (p92_s0 : Int32), tW (dC, dI) tys κ B A s w92 H locs → Sm [] [] κ ws w92 → (-2147483648) ≤ p92_s0.toInt → p92_s0.toInt ≤ 999 → fld w92 a0 12 20 (.ref v32) → fld w92 a0 12 30 (.ref v53) → elt w92 v32 (5 : Int32).toInt.toNat v36 → lv_has ls 7 [(0, .ref a0), (1, .int a1), (2, .int a2), (3, .int v6), (4, .int p29_l4), (5, .int p29_l5), (6, .int v75)] → W p l e (headSpec (ws_u yX12_goneTill cX12_goneTill 7 (some .int)) ({ frames := 1, cells := 0, slots := 0, locals := 22 })).room s m ([.ref a0, .int a1, .int a2] : List Value).toArray below meth c H locs 0 0 QQ (F0 m 92 ls [.int p92_s0]) := by
            intro H locs ls w92 p92_s0 hw hM l_p92_s0 h_p92_s0 f_a0_X12_20 f_a0_X12_30 f_v32_M_said_5 hl
            refine lv_istore (lv' := [(4, .int p92_s0), (0, .ref a0), (1, .int a1), (2, .int a2), (3, .int v6), (5, .int p29_l5), (6, .int v75)]) hx hb dX12_goneTill_92 hl (by decide) rfl (fun ls hl => ?_)
            exact J94 _ _ _ w92 p92_s0 hw hM (by omega) (by omega) f_a0_X12_20 f_v32_M_said_5 (lv_sub hl [1, 2, 3, 4, 0, 5] rfl)
          refine lv_icmp_ge (tgt := 90) hx hb dX12_goneTill_82 (by decide) (fun c_82 => ?_) (fun c_82 => ?_)
          · simp only [fa_lt, fa_le, fa_eq] at c_82
            refine lv_iload hx hb dX12_goneTill_90 (lv_at hl 5 rfl) ?_
            exact J92 _ _ _ w_2 p29_l4 hw hM (by omega) (by omega) f_a0_X12_20 f_a0_X12_30 f_v32_M_said_5 (lv_sub hl [1, 2, 3, 4, 5, 6, 0] rfl)
          · simp only [fa_lt, fa_le, fa_eq] at c_82
            refine lv_iload hx hb dX12_goneTill_85 (lv_at hl 0 rfl) ?_
            refine lv_goto (tgt := 92) hx hb dX12_goneTill_87 (by decide) ?_
            exact J92 _ _ _ w_2 v75 hw hM (by omega) (by omega) f_a0_X12_20 f_a0_X12_30 f_v32_M_said_5 (lv_sub hl [1, 2, 3, 4, 5, 6, 0] rfl)
        · simp only [fa_lt, fa_le, fa_eq, li_0] at c_46
          refine lv_goto (tgt := 94) hx hb dX12_goneTill_49 (by decide) ?_
          exact J94 _ _ _ w_1 p29_l4 hw hM (by omega) (by omega) f_a0_X12_20 f_v32_M_said_5 (lv_sub hl [0, 1, 2, 3, 4, 5] rfl)
    exact J29 _ _ _ _ ⟨ws, 999, 0, hw, hM, (by decide), (by decide), (by decide), (by decide), (lv_sub hl [3, 4, 5, 2, 1, 0] rfl), rfl⟩
  · simp only [fa_lt, fa_le, fa_eq, li_0] at c_9
    refine lv_aload_n hx hb dX12_goneTill_12 rfl (lv_at hl 1 rfl) ?_
    refine lv_iconst (v := 0) hx hb dX12_goneTill_13 (by decide) ?_
    refine lv_iload_n hx hb dX12_goneTill_14 rfl (lv_at hl 3 rfl) ?_
    refine lv_iconst (v := 1) hx hb dX12_goneTill_15 (by decide) ?_
    refine lv_iadd hx hb dX12_goneTill_16 ?_
    refine lv_topi (fun v16 e_v16 => ?_)
    have e_v16 : v16.toInt = a2.toInt + 1 := ad_i e_v16 rfl li_1 (by omega) (by omega)
    refine t_calli (va_runV (As := [.int 0, .int v16]) (rest := []) ⟨hx, hb, hml, hown, hts⟩ (t_X12_farOf l dC dI tys κ B ws hw.2.2.2.2 a0 k_a0 0 (by decide) (by decide) v16 (by omega) (by omega) s.heap.size) (cwV 2 hts (gUV tw_1428 tw_1430 ts_5_4 tw_13 tw_1431) rfl rfl rfl (by decide +kernel) ⟨(Nat.le_of_ble_eq_true rfl), (Nat.le_of_ble_eq_true rfl)⟩) ⟨cPre.blind, t_recv hw (ci := 12) k_a0 rfl rfl, cPre.use hw.2.1 hw.1 hw.2.2.1 hE⟩ rfl rfl hl.1 rfl (lv_room (Nat.le_of_ble_eq_true rfl)) dX12_goneTill_17 ⟨(Nat.le_of_ble_eq_true rfl), (Nat.le_of_ble_eq_true rfl)⟩) hw hA (fun _ _ h => h.1) (fun v17 w_3 H locs hp hw => ?_)
    obtain ⟨_, hm⟩ := hp
    have l_v17 := i32_lo v17
    have h_v17 := i32_hi v17
    have hM := hM.trans hm (by decide) (by decide)
    rw [hQ]
    refine W.widen (k := 0) (n := 0) (Nat.le_refl _) (Nat.le_refl _) ?_
    exact W.iret (v := v17) hx hb hr (fun t ht hW => ⟨⟨v17, w_3, rfl, ⟨hw.2.2.2.2, hM⟩, by rw [ht]; exact hw.2.1, va_K.moved hW.alike hw.1, hw.2.2.1⟩, hw.2.2.2.1.F ht⟩) hw.2.2.2.1.2.2 dX12_goneTill_20
set_option maxHeartbeats 4000000 in
set_option maxRecDepth 100000 in
theorem t_X12_hoursOf (l : Launch) (dC : Nat → ClassId) (dI : Nat → Nat → Nat) (tys : List (ClassId × FieldType)) (κ : tK) (B : Nat) (ws : va_W) (hT : Ty κ tys B ws) (a0 : Nat) (k_a0 : κ a0 = some 12) (a1 : Int32) (l_a1 : 0 ≤ a1.toInt) (h_a1 : a1.toInt ≤ 63) (sz : Nat) : Met l yX12_hoursOf (ws_u yX12_hoursOf cX12_hoursOf 5 (some .int)) ({ frames := 2, cells := 0, slots := 0, locals := 48 }) (va_Pc [.ref a0, .int a1] (cPre (dC, dI) tys ws sz)) (va_Qi (fun (r : Int32) (w : va_W) => (-2147483648) ≤ r.toInt ∧ r.toInt ≤ 999 ∧ Ty κ tys B w ∧ Sm [] [69] κ ws w) (fun w t => cPost (dC, dI) tys w (va_A ws sz) t) (va_A ws sz)) 0 0 (va_A ws sz) := by
  refine Met.ofW (cc := cX12_hoursOf) (maxL := 5) (ret := (some .int)) (by decide) rfl ?_
  intro p e s m args below meth c s₁ B0 hml hv
  obtain ⟨rfl, hsz, hP, hK, hD0, hE⟩ := hv
  have hx := B0.exec
  have hb := B0.bytes
  have hr := B0.returns
  have hts0 := atoms_spec (ws := ws_u yX12_hoursOf cX12_hoursOf 5 (some .int)) B0.pre
  have hts : ∀ w ∈ gT, w.before _ s = true := fun w h => hts0 w (List.mem_cons_of_mem _ h)
  have hown : s.vm.findClass RX12 = some m.cls := findClass_of_methodNamed B0.named
  have hlocks := B0.notSynchronized
  subst hsz
  have hD := hD0.self (sz := s.heap.size)
  generalize hAe : va_A ws s.heap.size = A at hD ⊢
  have hA : ∀ q : Nat, s.heap.size ≤ q → A q := fun q h => by rw [← hAe]; exact Or.inr h
  have hw : tW (dC, dI) tys κ B A s ws s.heap [] := ⟨hK, hP, hD, va_S.rf, hT⟩
  have hM : Sm [] [69] κ ws ws := Sm.rf
  clear hP hK hD hD0 hts0
  have hl := lv_entry ([.ref a0, .int a1]) (n := 5) (Nat.le_of_ble_eq_true rfl)
  rw [lg_entry_eq]
  generalize (lg_sl ([.ref a0, .int a1]) ++ List.replicate (5 - (lg_sl ([.ref a0, .int a1])).length) Slot.unset).toArray = ls at hl ⊢
  have hl : lv_has ls 5 [(0, .ref a0), (1, .int a1)] := hl
  refine t_start (fun QQ hQ => ?_)
  refine lv_iload_n hx hb dX12_hoursOf_0 rfl (lv_at hl 1 rfl) ?_
  have J11 : ∀ (H : Heap) (locs : List Loc) (ls : Array Slot) (w11 : va_W) (p11_s0 : Int32), tW (dC, dI) tys κ B A s w11 H locs → Sm [] [69] κ ws w11 → 0 ≤ p11_s0.toInt → p11_s0.toInt ≤ 999 → lv_has ls 5 [(0, .ref a0), (1, .int a1)] → W p l e (headSpec (ws_u yX12_hoursOf cX12_hoursOf 5 (some .int)) ({ frames := 2, cells := 0, slots := 0, locals := 48 })).room s m ([.ref a0, .int a1] : List Value).toArray below meth c H locs 0 0 QQ (F0 m 11 ls [.int p11_s0]) := by
    intro H locs ls w11 p11_s0 hw hM l_p11_s0 h_p11_s0 hl
    refine lv_istore_n (lv' := [(2, .int p11_s0), (0, .ref a0), (1, .int a1)]) hx hb dX12_hoursOf_11 rfl hl (by decide) rfl (fun ls hl => ?_)
    refine lv_iconst (v := 0) hx hb dX12_hoursOf_12 (by decide) ?_
    refine lv_istore_n (lv' := [(3, .int 0), (2, .int p11_s0), (0, .ref a0), (1, .int a1)]) hx hb dX12_hoursOf_13 rfl hl (by decide) rfl (fun ls hl => ?_)
    have J14 : ∀ (n : Nat) (H : Heap) (locs : List Loc) (ls : Array Slot), (∃ (w14 : va_W) (p14_l2 : Int32) (p14_l3 : Int32), tW (dC, dI) tys κ B A s w14 H locs ∧ Sm [] [69] κ ws w14 ∧ (-2147483648) ≤ p14_l2.toInt ∧ p14_l2.toInt ≤ 999 ∧ 0 ≤ p14_l3.toInt ∧ p14_l3.toInt ≤ 6 ∧ lv_has ls 5 [(0, .ref a0), (1, .int a1), (2, .int p14_l2), (3, .int p14_l3)] ∧ (6 - p14_l3.toInt).toNat = n) → W p l e (headSpec (ws_u yX12_hoursOf cX12_hoursOf 5 (some .int)) ({ frames := 2, cells := 0, slots := 0, locals := 48 })).room s m ([.ref a0, .int a1] : List Value).toArray below meth c H locs 0 0 QQ (F0 m 14 ls []) := by
      refine loopT _ ?_
      intro n_14 H locs ls hI ih_14
      obtain ⟨w14, p14_l2, p14_l3, hw, hM, l_p14_l2, h_p14_l2, l_p14_l3, h_p14_l3, hl, hn_14⟩ := hI
      refine lv_iload_n hx hb dX12_hoursOf_14 rfl (lv_at hl 3 rfl) ?_
      refine lv_aload_n hx hb dX12_hoursOf_15 rfl (lv_at hl 0 rfl) ?_
      refine t_getr (k1 := 63) (ci := 12) (C := RX12) (T := TX12) (N := 38) hx hb hts iX12 hown hw k_a0 rfl rfl rfl 20 (by decide) (hts _ tw_1145) (fun _ h9 => h9) dX12_hoursOf_16 rfl (fun v16 k_v16 f_a0_X12_20 => ?_)
      refine lv_iconst (v := 5) hx hb dX12_hoursOf_19 (by decide) ?_
      refine t_iald hx hb hw k_v16 rfl rfl (by decide) (by decide) dX12_hoursOf_20 (fun v20 r_v20 s_v20 f_v16_M_said_5 => ?_)
      have l_v20 : 0 ≤ v20.toInt := by rw [iv_63_5] at r_v20; exact r_v20
      have h_v20 : v20.toInt ≤ 6 := by rw [iv_63_5] at s_v20; exact s_v20
      refine lv_icmp_ge (tgt := 93) hx hb dX12_hoursOf_21 (by decide) (fun c_21 => ?_) (fun c_21 => ?_)
      · simp only [fa_lt, fa_le, fa_eq] at c_21
        refine lv_iload_n hx hb dX12_hoursOf_93 rfl (lv_at hl 2 rfl) ?_
        rw [hQ]
        refine W.widen (k := 0) (n := 0) (Nat.le_refl _) (Nat.le_refl _) ?_
        exact W.iret (v := p14_l2) hx hb hr (fun t ht hW => ⟨⟨p14_l2, w14, rfl, ⟨(by omega), (by omega), hw.2.2.2.2, hM⟩, by rw [ht]; exact hw.2.1, va_K.moved hW.alike hw.1, hw.2.2.1⟩, hw.2.2.2.1.F ht⟩) hw.2.2.2.1.2.2 dX12_hoursOf_94
      · simp only [fa_lt, fa_le, fa_eq] at c_21
        refine lv_iload_n hx hb dX12_hoursOf_24 rfl (lv_at hl 1 rfl) ?_
        refine lv_iload_n hx hb dX12_hoursOf_25 rfl (lv_at hl 3 rfl) ?_
        refine t_calli (va_runS (As := [.int a1, .int p14_l3]) (rest := []) ⟨hx, hb, hml, hown, hts⟩ (t_X12_isOf l dC dI tys κ B w14 hw.2.2.2.2 a1 p14_l3 (by omega) (by omega) H.size) (va_cwS 2 hts (gUS tw_1637 tw_1638 tw_13 tw_1639) rfl rfl rfl (by decide +kernel) ⟨(Nat.le_of_ble_eq_true rfl), (Nat.le_of_ble_eq_true rfl)⟩) ⟨cPre.blind, cPre.use hw.2.1 hw.1 hw.2.2.1 hE⟩ rfl rfl hl.1 rfl (lv_room (Nat.le_of_ble_eq_true rfl)) dX12_hoursOf_26 ⟨(Nat.le_of_ble_eq_true rfl), (Nat.le_of_ble_eq_true rfl)⟩) hw hA (fun _ _ h => h.2.2.1) (fun v26 w_1 H locs hp hw => ?_)
        obtain ⟨l_v26, h_v26, _, hm, x_v26_0⟩ := hp
        have hM := hM.trans hm (by decide) (by decide)
        have f_a0_X12_20 := hm.1 _ _ _ _ f_a0_X12_20 (by decide)
        have f_v16_M_said_5 := hm.elt k_v16 (by decide) f_v16_M_said_5
        have J87 : ∀ (H : Heap) (locs : List Loc) (ls : Array Slot) (w87 : va_W) (p87_l2 : Int32), tW (dC, dI) tys κ B A s w87 H locs → Sm [] [69] κ ws w87 → (-2147483648) ≤ p87_l2.toInt → p87_l2.toInt ≤ 999 → fld w87 a0 12 20 (.ref v16) → elt w87 v16 (5 : Int32).toInt.toNat v20 → lv_has ls 5 [(0, .ref a0), (1, .int a1), (2, .int p87_l2), (3, .int p14_l3)] → W p l e (headSpec (ws_u yX12_hoursOf cX12_hoursOf 5 (some .int)) ({ frames := 2, cells := 0, slots := 0, locals := 48 })).room s m ([.ref a0, .int a1] : List Value).toArray below meth c H locs 0 0 QQ (F0 m 87 ls []) := by
          intro H locs ls w87 p87_l2 hw hM l_p87_l2 h_p87_l2 f_a0_X12_20 f_v16_M_said_5 hl
          obtain ⟨v87, e_v87⟩ : ∃ y : Int32, y = p14_l3 + 1 := ⟨_, rfl⟩
          refine lv_iinc (v := v87) (lv' := [(3, .int v87), (0, .ref a0), (1, .int a1), (2, .int p87_l2)]) hx hb dX12_hoursOf_87 hl (k := 3) rfl e_v87.symm (by decide) rfl (fun ls hl => ?_)
          have e_v87 : v87.toInt = p14_l3.toInt + 1 := ad_i e_v87 rfl li_1 (by omega) (by omega)
          refine lv_goto (tgt := 14) hx hb dX12_hoursOf_90 (by decide) ?_
          exact ih_14 _ _ _ _ (by omega) ⟨w87, p87_l2, v87, hw, hM, (by omega), (by omega), (by omega), (by omega), (lv_sub hl [1, 2, 3, 0] rfl), rfl⟩
        refine lv_if_ne (tgt := 35) hx hb dX12_hoursOf_29 (by decide) (fun c_29 => ?_) (fun c_29 => ?_)
        · simp only [fa_lt, fa_le, fa_eq, li_0] at c_29
          refine lv_aload_n hx hb dX12_hoursOf_35 rfl (lv_at hl 0 rfl) ?_
          refine t_getr (k1 := 69) (ci := 12) (C := RX12) (T := TX12) (N := 38) hx hb hts iX12 hown hw k_a0 rfl rfl rfl 30 (by decide) (hts _ tw_1155) (fun _ h9 => h9) dX12_hoursOf_36 rfl (fun v36 k_v36 f_a0_X12_30 => ?_)
          refine lv_bipush (v := 6) hx hb dX12_hoursOf_39 (by decide) ?_
          refine lv_iload_n hx hb dX12_hoursOf_41 rfl (lv_at hl 1 rfl) ?_
          refine lv_imul hx hb dX12_hoursOf_42 ?_
          refine lv_topi (fun v42 e_v42 => ?_)
          have e_v42 : v42.toInt = 6 * a1.toInt := ml_i e_v42 li_6 rfl (by omega) (by omega)
          refine lv_iload_n hx hb dX12_hoursOf_43 rfl (lv_at hl 3 rfl) ?_
          refine lv_iadd hx hb dX12_hoursOf_44 ?_
          refine lv_topi (fun v44 e_v44 => ?_)
          have e_v44 : v44.toInt = v42.toInt + p14_l3.toInt := ad_i e_v44 rfl rfl (by omega) (by omega)
          refine lv_aload_n hx hb dX12_hoursOf_45 rfl (lv_at hl 0 rfl) ?_
          refine lv_iload_n hx hb dX12_hoursOf_46 rfl (lv_at hl 1 rfl) ?_
          refine lv_iload_n hx hb dX12_hoursOf_47 rfl (lv_at hl 3 rfl) ?_
          refine t_calli (va_runV (As := [.int a1, .int p14_l3]) (rest := [.int v44, .ref v36]) ⟨hx, hb, hml, hown, hts⟩ (t_X12_goneTill l dC dI tys κ B w_1 hw.2.2.2.2 a0 k_a0 a1 (by omega) (by omega) p14_l3 (by omega) (by omega) H.size) (cwV 2 hts (gUV tw_1680 tw_1682 ts_7_13 tw_13 tw_1683) rfl rfl rfl (by decide +kernel) ⟨(Nat.le_of_ble_eq_true rfl), (Nat.le_of_ble_eq_true rfl)⟩) ⟨cPre.blind, t_recv hw (ci := 12) k_a0 rfl rfl, cPre.use hw.2.1 hw.1 hw.2.2.1 hE⟩ rfl rfl hl.1 rfl (lv_room (Nat.le_of_ble_eq_true rfl)) dX12_hoursOf_48 ⟨(Nat.le_of_ble_eq_true rfl), (Nat.le_of_ble_eq_true rfl)⟩) hw hA (fun _ _ h => h.1) (fun v48 w_2 H locs hp hw => ?_)
          obtain ⟨_, hm⟩ := hp
          have l_v48 := i32_lo v48
          have h_v48 := i32_hi v48
          have hM := hM.trans hm (by decide) (by decide)
          have f_a0_X12_20 := hm.1 _ _ _ _ f_a0_X12_20 (by decide)
          have f_v16_M_said_5 := hm.elt k_v16 (by decide) f_v16_M_said_5
          have f_a0_X12_30 := hm.1 _ _ _ _ f_a0_X12_30 (by decide)
          refine t_iast hx hb hw k_v36 rfl rfl (by omega) (show v44.toInt < 384 by omega) (i32_lo _) (i32_hi _) dX12_hoursOf_51 (fun w_3 H locs hw u => ?_)
          have hM := hM.up3 u k_v36 (by decide)
          have f_a0_X12_20 := u.1 _ _ _ _ f_a0_X12_20
          have f_v16_M_said_5 := u.2.2.1 _ _ _ f_v16_M_said_5 (Or.inl (ne_k k_v16 k_v36 (by decide)))
          have f_a0_X12_30 := u.1 _ _ _ _ f_a0_X12_30
          refine lv_aload_n hx hb dX12_hoursOf_52 rfl (lv_at hl 0 rfl) ?_
          refine t_getk (ci := 12) (C := RX12) (T := TX12) (N := 38) hx hb hts iX12 hown hw rfl 30 (by decide) (hts _ tw_1155) (fun _ h9 => h9) dX12_hoursOf_53 f_a0_X12_30 ?_
          refine lv_bipush (v := 6) hx hb dX12_hoursOf_56 (by decide) ?_
          refine lv_iload_n hx hb dX12_hoursOf_58 rfl (lv_at hl 1 rfl) ?_
          refine lv_imul hx hb dX12_hoursOf_59 ?_
          refine lv_topi (fun v59 e_v59 => ?_)
          have e_v59 : v59.toInt = 6 * a1.toInt := ml_i e_v59 li_6 rfl (by omega) (by omega)
          refine lv_iload_n hx hb dX12_hoursOf_60 rfl (lv_at hl 3 rfl) ?_
          refine lv_iadd hx hb dX12_hoursOf_61 ?_
          refine lv_topi (fun v61 e_v61 => ?_)
          have e_v61 : v61.toInt = v59.toInt + p14_l3.toInt := ad_i e_v61 rfl rfl (by omega) (by omega)
          refine t_iald hx hb hw k_v36 rfl rfl (by omega) (show v61.toInt < 384 by omega) dX12_hoursOf_62 (fun v62 r_v62 s_v62 q_v62 => ?_)
          have l_v62 := i32_lo v62
          have h_v62 := i32_hi v62
          refine lv_aload_n hx hb dX12_hoursOf_63 rfl (lv_at hl 0 rfl) ?_
          refine lv_iload_n hx hb dX12_hoursOf_64 rfl (lv_at hl 3 rfl) ?_
          refine lv_iconst (v := 1) hx hb dX12_hoursOf_65 (by decide) ?_
          refine lv_iadd hx hb dX12_hoursOf_66 ?_
          refine lv_topi (fun v66 e_v66 => ?_)
          have e_v66 : v66.toInt = p14_l3.toInt + 1 := ad_i e_v66 rfl li_1 (by omega) (by omega)
          refine lv_iconst (v := 0) hx hb dX12_hoursOf_67 (by decide) ?_
          refine t_calli (va_runV (As := [.int v66, .int 0]) (rest := [.int v62]) ⟨hx, hb, hml, hown, hts⟩ (t_X12_farOf l dC dI tys κ B w_3 hw.2.2.2.2 a0 k_a0 v66 (by omega) (by omega) 0 (by decide) (by decide) H.size) (cwV 2 hts (gUV tw_1428 tw_1430 ts_5_4 tw_13 tw_1431) rfl rfl rfl (by decide +kernel) ⟨(Nat.le_of_ble_eq_true rfl), (Nat.le_of_ble_eq_true rfl)⟩) ⟨cPre.blind, t_recv hw (ci := 12) k_a0 rfl rfl, cPre.use hw.2.1 hw.1 hw.2.2.1 hE⟩ rfl rfl hl.1 rfl (lv_room (Nat.le_of_ble_eq_true rfl)) dX12_hoursOf_68 ⟨(Nat.le_of_ble_eq_true rfl), (Nat.le_of_ble_eq_true rfl)⟩) hw hA (fun _ _ h => h.1) (fun v68 w_4 H locs hp hw => ?_)
          obtain ⟨_, hm⟩ := hp
          have l_v68 := i32_lo v68
          have h_v68 := i32_hi v68
          have hM := hM.trans hm (by decide) (by decide)
          have f_a0_X12_20 := hm.1 _ _ _ _ f_a0_X12_20 (by decide)
          have f_v16_M_said_5 := hm.elt k_v16 (by decide) f_v16_M_said_5
          have f_a0_X12_30 := hm.1 _ _ _ _ f_a0_X12_30 (by decide)
          refine lv_iadd hx hb dX12_hoursOf_71 ?_
          refine lv_topi (fun v71 e_v71 => ?_)
          have l_v71 := i32_lo v71
          have h_v71 := i32_hi v71
          refine lv_istore (lv' := [(4, .int v71), (0, .ref a0), (1, .int a1), (2, .int p14_l2), (3, .int p14_l3)]) hx hb dX12_hoursOf_72 hl (by decide) rfl (fun ls hl => ?_)
          refine lv_iload hx hb dX12_hoursOf_74 (lv_at hl 0 rfl) ?_
          refine lv_iload_n hx hb dX12_hoursOf_76 rfl (lv_at hl 3 rfl) ?_
          have J86 : ∀ (H : Heap) (locs : List Loc) (ls : Array Slot) (w86 : va_W) (p86_s0 : Int32), tW (dC, dI) tys κ B A s w86 H locs → Sm [] [69] κ ws w86 → (-2147483648) ≤ p86_s0.toInt → p86_s0.toInt ≤ 999 → fld w86 a0 12 20 (.ref v16) → fld w86 a0 12 30 (.ref v36) → elt w86 v16 (5 : Int32).toInt.toNat v20 → lv_has ls 5 [(0, .ref a0), (1, .int a1), (2, .int p14_l2), (3, .int p14_l3), (4, .int v71)] → W p l e (headSpec (ws_u yX12_hoursOf cX12_hoursOf 5 (some .int)) ({ frames := 2, cells := 0, slots := 0, locals := 48 })).room s m ([.ref a0, .int a1] : List Value).toArray below meth c H locs 0 0 QQ (F0 m 86 ls [.int p86_s0]) := by
            intro H locs ls w86 p86_s0 hw hM l_p86_s0 h_p86_s0 f_a0_X12_20 f_a0_X12_30 f_v16_M_said_5 hl
            refine lv_istore_n (lv' := [(2, .int p86_s0), (0, .ref a0), (1, .int a1), (3, .int p14_l3), (4, .int v71)]) hx hb dX12_hoursOf_86 rfl hl (by decide) rfl (fun ls hl => ?_)
            exact J87 _ _ _ w86 p86_s0 hw hM (by omega) (by omega) f_a0_X12_20 f_v16_M_said_5 (lv_sub hl [1, 2, 0, 3] rfl)
          refine lv_icmp_ge (tgt := 85) hx hb dX12_hoursOf_77 (by decide) (fun c_77 => ?_) (fun c_77 => ?_)
          · simp only [fa_lt, fa_le, fa_eq] at c_77
            refine lv_iload_n hx hb dX12_hoursOf_85 rfl (lv_at hl 3 rfl) ?_
            exact J86 _ _ _ w_4 p14_l2 hw hM (by omega) (by omega) f_a0_X12_20 f_a0_X12_30 f_v16_M_said_5 (lv_sub hl [1, 2, 3, 4, 0] rfl)
          · simp only [fa_lt, fa_le, fa_eq] at c_77
            refine lv_iload hx hb dX12_hoursOf_80 (lv_at hl 0 rfl) ?_
            refine lv_goto (tgt := 86) hx hb dX12_hoursOf_82 (by decide) ?_
            exact J86 _ _ _ w_4 v71 hw hM (by omega) (by omega) f_a0_X12_20 f_a0_X12_30 f_v16_M_said_5 (lv_sub hl [1, 2, 3, 4, 0] rfl)
        · simp only [fa_lt, fa_le, fa_eq, li_0] at c_29
          refine lv_goto (tgt := 87) hx hb dX12_hoursOf_32 (by decide) ?_
          exact J87 _ _ _ w_1 p14_l2 hw hM (by omega) (by omega) f_a0_X12_20 f_v16_M_said_5 (lv_sub hl [0, 1, 2, 3] rfl)
    exact J14 _ _ _ _ ⟨w11, p11_s0, 0, hw, hM, (by omega), (by omega), (by decide), (by decide), (lv_sub hl [2, 3, 1, 0] rfl), rfl⟩
  refine lv_if_ne (tgt := 8) hx hb dX12_hoursOf_1 (by decide) (fun c_1 => ?_) (fun c_1 => ?_)
  · simp only [fa_lt, fa_le, fa_eq, li_0] at c_1
    refine lv_sipush (v := 999) hx hb dX12_hoursOf_8 (by decide) ?_
    exact J11 _ _ _ ws 999 hw hM (by decide) (by decide) (lv_sub hl [0, 1] rfl)
  · simp only [fa_lt, fa_le, fa_eq, li_0] at c_1
    refine lv_iconst (v := 0) hx hb dX12_hoursOf_4 (by decide) ?_
    refine lv_goto (tgt := 11) hx hb dX12_hoursOf_5 (by decide) ?_
    exact J11 _ _ _ ws 0 hw hM (by decide) (by decide) (lv_sub hl [0, 1] rfl)
set_option maxHeartbeats 4000000 in
set_option maxRecDepth 100000 in
theorem t_X12_image (l : Launch) (dC : Nat → ClassId) (dI : Nat → Nat → Nat) (tys : List (ClassId × FieldType)) (κ : tK) (B : Nat) (ws : va_W) (hT : Ty κ tys B ws) (a0 : Nat) (k_a0 : κ a0 = some 12) (a1 : Int32) (f0 : Nat) (k_f0 : κ f0 = some 63) (f_a0_X12_20 : fld ws a0 12 20 (.ref f0)) (f1 : Int32) (l_f1 : 0 ≤ f1.toInt) (h_f1 : f1.toInt ≤ 999) (f_f0_M_said_10 : elt ws f0 (10 : Int32).toInt.toNat f1) (sz : Nat) : Met l yX12_image (ws_u yX12_image cX12_image 3 (some .int)) ({ frames := 1, cells := 0, slots := 0, locals := 25 }) (va_Pc [.ref a0, .int a1] (cPre (dC, dI) tys ws sz)) (va_Qi (fun (r : Int32) (w : va_W) => (-1) ≤ r.toInt ∧ r.toInt ≤ 999 ∧ Ty κ tys B w ∧ Sm [] [72, 73, 74, 75] κ ws w) (fun w t => cPost (dC, dI) tys w (va_A ws sz) t) (va_A ws sz)) 0 0 (va_A ws sz) := by
  refine Met.ofW (cc := cX12_image) (maxL := 3) (ret := (some .int)) (by decide) rfl ?_
  intro p e s m args below meth c s₁ B0 hml hv
  obtain ⟨rfl, hsz, hP, hK, hD0, hE⟩ := hv
  have hx := B0.exec
  have hb := B0.bytes
  have hr := B0.returns
  have hts0 := atoms_spec (ws := ws_u yX12_image cX12_image 3 (some .int)) B0.pre
  have hts : ∀ w ∈ gT, w.before _ s = true := fun w h => hts0 w (List.mem_cons_of_mem _ h)
  have hown : s.vm.findClass RX12 = some m.cls := findClass_of_methodNamed B0.named
  have hlocks := B0.notSynchronized
  subst hsz
  have hD := hD0.self (sz := s.heap.size)
  generalize hAe : va_A ws s.heap.size = A at hD ⊢
  have hA : ∀ q : Nat, s.heap.size ≤ q → A q := fun q h => by rw [← hAe]; exact Or.inr h
  have hw : tW (dC, dI) tys κ B A s ws s.heap [] := ⟨hK, hP, hD, va_S.rf, hT⟩
  have hM : Sm [] [72, 73, 74, 75] κ ws ws := Sm.rf
  clear hP hK hD hD0 hts0
  have l_a1 := i32_lo a1
  have h_a1 := i32_hi a1
  have hl := lv_entry ([.ref a0, .int a1]) (n := 3) (Nat.le_of_ble_eq_true rfl)
  rw [lg_entry_eq]
  generalize (lg_sl ([.ref a0, .int a1]) ++ List.replicate (3 - (lg_sl ([.ref a0, .int a1])).length) Slot.unset).toArray = ls at hl ⊢
  have hl : lv_has ls 3 [(0, .ref a0), (1, .int a1)] := hl
  refine t_start (fun QQ hQ => ?_)
  refine lv_iload_n hx hb dX12_image_0 rfl (lv_at hl 1 rfl) ?_
  refine lv_i2l hx hb dX12_image_1 rfl ?_
  refine lv_topl (fun v1 e_v1 => ?_)
  have t_v1 : v1.toInt = a1.toInt := by rw [e_v1, Int32.toInt_toInt64]
  refine lv_lconst (v := 0) hx hb dX12_image_2 (by decide) ?_
  obtain ⟨v2, e_v2⟩ : ∃ y : Int64, y = 0 := ⟨_, rfl⟩
  refine W.eq (g2 := F0 m 3 ls [.long v2, .long v1]) (by rw [e_v2]) ?_
  have t_v2 : v2.toInt = 0 := by rw [e_v2]; decide
  refine lv_ldc2 (v := 3) hx hb hown (hts _ tw_1452) dX12_image_3 ?_
  refine lv_topl (fun v3 e_v3 => ?_)
  have t_v3 : v3.toInt = 3 := by rw [e_v3]; decide
  refine t_calli (va_runS (As := [.long v1, .long v2, .long v3]) (rest := []) ⟨hx, hb, hml, hown, hts⟩ (t_X12_in l dC dI tys κ B ws hw.2.2.2.2 v1 v2 v3 s.heap.size) (va_cwS 3 hts (gUS tw_1316 tw_1317 tw_13 tw_1318) rfl rfl rfl (by decide +kernel) ⟨(Nat.le_of_ble_eq_true rfl), (Nat.le_of_ble_eq_true rfl)⟩) ⟨cPre.blind, cPre.use hw.2.1 hw.1 hw.2.2.1 hE⟩ rfl rfl hl.1 rfl (lv_room (Nat.le_of_ble_eq_true rfl)) dX12_image_6 ⟨(Nat.le_of_ble_eq_true rfl), (Nat.le_of_ble_eq_true rfl)⟩) hw hA (fun _ _ h => h.2.2.1) (fun v6 w_1 H locs hp hw => ?_)
  obtain ⟨l_v6, h_v6, _, hm, x_v6_0⟩ := hp
  have hM := hM.trans hm (by decide) (by decide)
  have f_a0_X12_20 := hm.1 _ _ _ _ f_a0_X12_20 (by decide)
  have f_f0_M_said_10 := hm.elt k_f0 (by decide) f_f0_M_said_10
  refine lv_if_ne (tgt := 14) hx hb dX12_image_9 (by decide) (fun c_9 => ?_) (fun c_9 => ?_)
  · simp only [fa_lt, fa_le, fa_eq, li_0] at c_9
    refine lv_aload_n hx hb dX12_image_14 rfl (lv_at hl 0 rfl) ?_
    refine t_getr (k1 := 75) (ci := 12) (C := RX12) (T := TX12) (N := 38) hx hb hts iX12 hown hw k_a0 rfl rfl rfl 37 (by decide) (hts _ tw_1162) (fun _ h9 => h9) dX12_image_15 rfl (fun v15 k_v15 f_a0_X12_37 => ?_)
    refine lv_iload_n hx hb dX12_image_18 rfl (lv_at hl 1 rfl) ?_
    refine lv_iconst (v := 1) hx hb dX12_image_19 (by decide) ?_
    refine t_zast hx hb hw k_v15 rfl rfl (by omega) (show a1.toInt < 4 by omega) (fun _ => rfl) dX12_image_20 (fun w_2 H locs hw u => ?_)
    have hM := hM.up3 u k_v15 (by decide)
    have f_a0_X12_20 := u.1 _ _ _ _ f_a0_X12_20
    have f_f0_M_said_10 := u.2.2.1 _ _ _ f_f0_M_said_10 (Or.inl (ne_k k_f0 k_v15 (by decide)))
    have f_a0_X12_37 := u.1 _ _ _ _ f_a0_X12_37
    refine lv_aload_n hx hb dX12_image_21 rfl (lv_at hl 0 rfl) ?_
    refine t_getr (k1 := 73) (ci := 12) (C := RX12) (T := TX12) (N := 38) hx hb hts iX12 hown hw k_a0 rfl rfl rfl 35 (by decide) (hts _ tw_1160) (fun _ h9 => h9) dX12_image_22 rfl (fun v22 k_v22 f_a0_X12_35 => ?_)
    refine lv_iload_n hx hb dX12_image_25 rfl (lv_at hl 1 rfl) ?_
    refine lv_aload_n hx hb dX12_image_26 rfl (lv_at hl 0 rfl) ?_
    refine t_geti (ci := 12) (C := RX12) (T := TX12) (N := 38) hx hb hts iX12 hown hw k_a0 rfl rfl rfl 21 (by decide) (hts _ tw_1146) (fun _ h9 => h9) dX12_image_27 rfl (fun v27 l_v27 h_v27 f_a0_X12_21 => ?_)
    have l_v27 : (-1) ≤ v27.toInt := l_v27
    have h_v27 : v27.toInt ≤ 5 := h_v27
    refine t_iast hx hb hw k_v22 rfl rfl (by omega) (show a1.toInt < 4 by omega) (show (-1) ≤ v27.toInt by omega) (show v27.toInt ≤ 5 by omega) dX12_image_30 (fun w_3 H locs hw u => ?_)
    have hM := hM.up3 u k_v22 (by decide)
    have f_a0_X12_20 := u.1 _ _ _ _ f_a0_X12_20
    have f_f0_M_said_10 := u.2.2.1 _ _ _ f_f0_M_said_10 (Or.inl (ne_k k_f0 k_v22 (by decide)))
    have f_a0_X12_37 := u.1 _ _ _ _ f_a0_X12_37
    have f_a0_X12_35 := u.1 _ _ _ _ f_a0_X12_35
    have f_a0_X12_21 := u.1 _ _ _ _ f_a0_X12_21
    refine lv_aload_n hx hb dX12_image_31 rfl (lv_at hl 0 rfl) ?_
    refine t_getr (k1 := 74) (ci := 12) (C := RX12) (T := TX12) (N := 38) hx hb hts iX12 hown hw k_a0 rfl rfl rfl 36 (by decide) (hts _ tw_1161) (fun _ h9 => h9) dX12_image_32 rfl (fun v32 k_v32 f_a0_X12_36 => ?_)
    refine lv_iload_n hx hb dX12_image_35 rfl (lv_at hl 1 rfl) ?_
    refine lv_aload_n hx hb dX12_image_36 rfl (lv_at hl 0 rfl) ?_
    refine t_geti (ci := 12) (C := RX12) (T := TX12) (N := 38) hx hb hts iX12 hown hw k_a0 rfl rfl rfl 22 (by decide) (hts _ tw_1147) (fun _ h9 => h9) dX12_image_37 rfl (fun v37 l_v37 h_v37 f_a0_X12_22 => ?_)
    have l_v37 : (-2147483648) ≤ v37.toInt := l_v37
    have h_v37 : v37.toInt ≤ 2147483647 := h_v37
    refine t_iast hx hb hw k_v32 rfl rfl (by omega) (show a1.toInt < 4 by omega) (i32_lo _) (i32_hi _) dX12_image_40 (fun w_4 H locs hw u => ?_)
    have hM := hM.up3 u k_v32 (by decide)
    have f_a0_X12_20 := u.1 _ _ _ _ f_a0_X12_20
    have f_f0_M_said_10 := u.2.2.1 _ _ _ f_f0_M_said_10 (Or.inl (ne_k k_f0 k_v32 (by decide)))
    have f_a0_X12_37 := u.1 _ _ _ _ f_a0_X12_37
    have f_a0_X12_35 := u.1 _ _ _ _ f_a0_X12_35
    have f_a0_X12_21 := u.1 _ _ _ _ f_a0_X12_21
    have f_a0_X12_36 := u.1 _ _ _ _ f_a0_X12_36
    have f_a0_X12_22 := u.1 _ _ _ _ f_a0_X12_22
    refine lv_iconst (v := 0) hx hb dX12_image_41 (by decide) ?_
    refine lv_istore_n (lv' := [(2, .int 0), (0, .ref a0), (1, .int a1)]) hx hb dX12_image_42 rfl hl (by decide) rfl (fun ls hl => ?_)
    have J43 : ∀ (n : Nat) (H : Heap) (locs : List Loc) (ls : Array Slot), (∃ (w43 : va_W) (p43_l2 : Int32), tW (dC, dI) tys κ B A s w43 H locs ∧ Sm [] [72, 73, 74, 75] κ ws w43 ∧ 0 ≤ p43_l2.toInt ∧ p43_l2.toInt ≤ 306 ∧ fld w43 a0 12 20 (.ref f0) ∧ fld w43 a0 12 21 (.int v27) ∧ fld w43 a0 12 22 (.int v37) ∧ fld w43 a0 12 35 (.ref v22) ∧ fld w43 a0 12 36 (.ref v32) ∧ fld w43 a0 12 37 (.ref v15) ∧ elt w43 f0 (10 : Int32).toInt.toNat f1 ∧ lv_has ls 3 [(0, .ref a0), (1, .int a1), (2, .int p43_l2)] ∧ (306 - p43_l2.toInt).toNat = n) → W p l e (headSpec (ws_u yX12_image cX12_image 3 (some .int)) ({ frames := 1, cells := 0, slots := 0, locals := 25 })).room s m ([.ref a0, .int a1] : List Value).toArray below meth c H locs 0 0 QQ (F0 m 43 ls []) := by
      refine loopT _ ?_
      intro n_43 H locs ls hI ih_43
      obtain ⟨w43, p43_l2, hw, hM, l_p43_l2, h_p43_l2, f_a0_X12_20, f_a0_X12_21, f_a0_X12_22, f_a0_X12_35, f_a0_X12_36, f_a0_X12_37, f_f0_M_said_10, hl, hn_43⟩ := hI
      refine lv_iload_n hx hb dX12_image_43 rfl (lv_at hl 2 rfl) ?_
      refine lv_sipush (v := 306) hx hb dX12_image_44 (by decide) ?_
      refine lv_icmp_ge (tgt := 74) hx hb dX12_image_47 (by decide) (fun c_47 => ?_) (fun c_47 => ?_)
      · simp only [fa_lt, fa_le, fa_eq, li_306] at c_47
        refine lv_aload_n hx hb dX12_image_74 rfl (lv_at hl 0 rfl) ?_
        refine t_getk (ci := 12) (C := RX12) (T := TX12) (N := 38) hx hb hts iX12 hown hw rfl 20 (by decide) (hts _ tw_1145) (fun _ h9 => h9) dX12_image_75 f_a0_X12_20 ?_
        refine lv_bipush (v := 10) hx hb dX12_image_78 (by decide) ?_
        refine t_ialdk hx hb hw k_f0 rfl rfl (by decide) (by decide) f_f0_M_said_10 dX12_image_80 ?_
        rw [hQ]
        refine W.widen (k := 0) (n := 0) (Nat.le_refl _) (Nat.le_refl _) ?_
        exact W.iret (v := f1) hx hb hr (fun t ht hW => ⟨⟨f1, w43, rfl, ⟨(by omega), (by omega), hw.2.2.2.2, hM⟩, by rw [ht]; exact hw.2.1, va_K.moved hW.alike hw.1, hw.2.2.1⟩, hw.2.2.2.1.F ht⟩) hw.2.2.2.1.2.2 dX12_image_81
      · simp only [fa_lt, fa_le, fa_eq, li_306] at c_47
        refine lv_aload_n hx hb dX12_image_50 rfl (lv_at hl 0 rfl) ?_
        refine t_getr (k1 := 72) (ci := 12) (C := RX12) (T := TX12) (N := 38) hx hb hts iX12 hown hw k_a0 rfl rfl rfl 34 (by decide) (hts _ tw_1159) (fun _ h9 => h9) dX12_image_51 rfl (fun v51 k_v51 f_a0_X12_34 => ?_)
        refine lv_sipush (v := 306) hx hb dX12_image_54 (by decide) ?_
        refine lv_iload_n hx hb dX12_image_57 rfl (lv_at hl 1 rfl) ?_
        refine lv_imul hx hb dX12_image_58 ?_
        refine lv_topi (fun v58 e_v58 => ?_)
        have e_v58 : v58.toInt = 306 * a1.toInt := ml_i e_v58 li_306 rfl (by omega) (by omega)
        refine lv_iload_n hx hb dX12_image_59 rfl (lv_at hl 2 rfl) ?_
        refine lv_iadd hx hb dX12_image_60 ?_
        refine lv_topi (fun v60 e_v60 => ?_)
        have e_v60 : v60.toInt = v58.toInt + p43_l2.toInt := ad_i e_v60 rfl rfl (by omega) (by omega)
        refine lv_aload_n hx hb dX12_image_61 rfl (lv_at hl 0 rfl) ?_
        refine t_getk (ci := 12) (C := RX12) (T := TX12) (N := 38) hx hb hts iX12 hown hw rfl 20 (by decide) (hts _ tw_1145) (fun _ h9 => h9) dX12_image_62 f_a0_X12_20 ?_
        refine lv_iload_n hx hb dX12_image_65 rfl (lv_at hl 2 rfl) ?_
        refine t_iald hx hb hw k_f0 rfl rfl (by omega) (show p43_l2.toInt < 306 by omega) dX12_image_66 (fun v66 r_v66 s_v66 q_v66 => ?_)
        have l_v66 := i32_lo v66
        have h_v66 := i32_hi v66
        have hs_v60 : (aiv B 72 v60.toInt.toNat).1 ≤ v66.toInt ∧ v66.toInt ≤ (aiv B 72 v60.toInt.toNat).2 := by
          rw [aiv_said] at r_v66 s_v66
          rw [aiv_images, show v60.toInt.toNat % 306 = p43_l2.toInt.toNat by omega]
          exact ivS_down r_v66 s_v66 (fun hz => by rw [hz] at q_v66; rw [elt_eq hw.2.2.1 q_v66 f_f0_M_said_10]; omega)
        refine t_iast hx hb hw k_v51 rfl rfl (by omega) (show v60.toInt < 1224 by omega) hs_v60.1 hs_v60.2 dX12_image_67 (fun w_5 H locs hw u => ?_)
        have hM := hM.up3 u k_v51 (by decide)
        have f_a0_X12_20 := u.1 _ _ _ _ f_a0_X12_20
        have f_a0_X12_21 := u.1 _ _ _ _ f_a0_X12_21
        have f_a0_X12_22 := u.1 _ _ _ _ f_a0_X12_22
        have f_a0_X12_35 := u.1 _ _ _ _ f_a0_X12_35
        have f_a0_X12_36 := u.1 _ _ _ _ f_a0_X12_36
        have f_a0_X12_37 := u.1 _ _ _ _ f_a0_X12_37
        have f_f0_M_said_10 := u.2.2.1 _ _ _ f_f0_M_said_10 (Or.inl (ne_k k_f0 k_v51 (by decide)))
        have f_a0_X12_34 := u.1 _ _ _ _ f_a0_X12_34
        obtain ⟨v68, e_v68⟩ : ∃ y : Int32, y = p43_l2 + 1 := ⟨_, rfl⟩
        refine lv_iinc (v := v68) (lv' := [(2, .int v68), (0, .ref a0), (1, .int a1)]) hx hb dX12_image_68 hl (k := 2) rfl e_v68.symm (by decide) rfl (fun ls hl => ?_)
        have e_v68 : v68.toInt = p43_l2.toInt + 1 := ad_i e_v68 rfl li_1 (by omega) (by omega)
        refine lv_goto (tgt := 43) hx hb dX12_image_71 (by decide) ?_
        exact ih_43 _ _ _ _ (by omega) ⟨w_5, v68, hw, hM, (by omega), (by omega), f_a0_X12_20, f_a0_X12_21, f_a0_X12_22, f_a0_X12_35, f_a0_X12_36, f_a0_X12_37, f_f0_M_said_10, (lv_sub hl [1, 2, 0] rfl), rfl⟩
    exact J43 _ _ _ _ ⟨w_4, 0, hw, hM, (by decide), (by decide), f_a0_X12_20, f_a0_X12_21, f_a0_X12_22, f_a0_X12_35, f_a0_X12_36, f_a0_X12_37, f_f0_M_said_10, (lv_sub hl [1, 2, 0] rfl), rfl⟩
  · simp only [fa_lt, fa_le, fa_eq, li_0] at c_9
    refine lv_iconst (v := (-1)) hx hb dX12_image_12 (by decide) ?_
    rw [hQ]
    refine W.widen (k := 0) (n := 0) (Nat.le_refl _) (Nat.le_refl _) ?_
    exact W.iret (v := (-1)) hx hb hr (fun t ht hW => ⟨⟨(-1), w_1, rfl, ⟨(by decide), (by decide), hw.2.2.2.2, hM⟩, by rw [ht]; exact hw.2.1, va_K.moved hW.alike hw.1, hw.2.2.1⟩, hw.2.2.2.1.F ht⟩) hw.2.2.2.1.2.2 dX12_image_13
set_option maxHeartbeats 4000000 in
set_option maxRecDepth 100000 in
theorem t_X12_isRest (l : Launch) (dC : Nat → ClassId) (dI : Nat → Nat → Nat) (tys : List (ClassId × FieldType)) (κ : tK) (B : Nat) (ws : va_W) (hT : Ty κ tys B ws) (a0 : Nat) (k_a0 : κ a0 = some 12) (a1 : Int32) (l_a1 : 0 ≤ a1.toInt) (h_a1 : a1.toInt ≤ 5) (a2 : Int32) (l_a2 : 0 ≤ a2.toInt) (h_a2 : a2.toInt ≤ 5) (a3 : Int32) (l_a3 : 0 ≤ a3.toInt) (h_a3 : a3.toInt ≤ 4) (a4 : Int32) (l_a4 : 0 ≤ a4.toInt) (h_a4 : a4.toInt ≤ 4) (sz : Nat) : Met l yX12_isRest (ws_u yX12_isRest cX12_isRest 6 (some .boolean)) ({ frames := 1, cells := 0, slots := 0, locals := 23 }) (va_Pc [.ref a0, .int a1, .int a2, .int a3, .int a4] (cPre (dC, dI) tys ws sz)) (va_Qi (fun (r : Int32) (w : va_W) => 0 ≤ r.toInt ∧ r.toInt ≤ 1 ∧ Ty κ tys B w ∧ Sm [] [] κ ws w) (fun w t => cPost (dC, dI) tys w (va_A ws sz) t) (va_A ws sz)) 0 0 (va_A ws sz) := by
  refine Met.ofW (cc := cX12_isRest) (maxL := 6) (ret := (some .boolean)) (by decide) rfl ?_
  intro p e s m args below meth c s₁ B0 hml hv
  obtain ⟨rfl, hsz, hP, hK, hD0, hE⟩ := hv
  have hx := B0.exec
  have hb := B0.bytes
  have hr := B0.returns
  have hts0 := atoms_spec (ws := ws_u yX12_isRest cX12_isRest 6 (some .boolean)) B0.pre
  have hts : ∀ w ∈ gT, w.before _ s = true := fun w h => hts0 w (List.mem_cons_of_mem _ h)
  have hown : s.vm.findClass RX12 = some m.cls := findClass_of_methodNamed B0.named
  have hlocks := B0.notSynchronized
  subst hsz
  have hD := hD0.self (sz := s.heap.size)
  generalize hAe : va_A ws s.heap.size = A at hD ⊢
  have hA : ∀ q : Nat, s.heap.size ≤ q → A q := fun q h => by rw [← hAe]; exact Or.inr h
  have hw : tW (dC, dI) tys κ B A s ws s.heap [] := ⟨hK, hP, hD, va_S.rf, hT⟩
  have hM : Sm [] [] κ ws ws := Sm.rf
  clear hP hK hD hD0 hts0
  have hl := lv_entry ([.ref a0, .int a1, .int a2, .int a3, .int a4]) (n := 6) (Nat.le_of_ble_eq_true rfl)
  rw [lg_entry_eq]
  generalize (lg_sl ([.ref a0, .int a1, .int a2, .int a3, .int a4]) ++ List.replicate (6 - (lg_sl ([.ref a0, .int a1, .int a2, .int a3, .int a4])).length) Slot.unset).toArray = ls at hl ⊢
  have hl : lv_has ls 6 [(0, .ref a0), (1, .int a1), (2, .int a2), (3, .int a3), (4, .int a4)] := hl
  refine t_start (fun QQ hQ => ?_)
  refine lv_iconst (v := 0) hx hb dX12_isRest_0 (by decide) ?_
  refine lv_istore (lv' := [(5, .int 0), (0, .ref a0), (1, .int a1), (2, .int a2), (3, .int a3), (4, .int a4)]) hx hb dX12_isRest_1 hl (by decide) rfl (fun ls hl => ?_)
  have J3 : ∀ (n : Nat) (H : Heap) (locs : List Loc) (ls : Array Slot), (∃ (w3 : va_W) (p3_l5 : Int32), tW (dC, dI) tys κ B A s w3 H locs ∧ Sm [] [] κ ws w3 ∧ 0 ≤ p3_l5.toInt ∧ p3_l5.toInt ≤ 5 ∧ lv_has ls 6 [(0, .ref a0), (1, .int a1), (2, .int a2), (3, .int a3), (4, .int a4), (5, .int p3_l5)] ∧ (5 - p3_l5.toInt).toNat = n) → W p l e (headSpec (ws_u yX12_isRest cX12_isRest 6 (some .boolean)) ({ frames := 1, cells := 0, slots := 0, locals := 23 })).room s m ([.ref a0, .int a1, .int a2, .int a3, .int a4] : List Value).toArray below meth c H locs 0 0 QQ (F0 m 3 ls []) := by
    refine loopT _ ?_
    intro n_3 H locs ls hI ih_3
    obtain ⟨w3, p3_l5, hw, hM, l_p3_l5, h_p3_l5, hl, hn_3⟩ := hI
    refine lv_iload hx hb dX12_isRest_3 (lv_at hl 5 rfl) ?_
    refine lv_iconst (v := 5) hx hb dX12_isRest_5 (by decide) ?_
    refine lv_icmp_ge (tgt := 75) hx hb dX12_isRest_6 (by decide) (fun c_6 => ?_) (fun c_6 => ?_)
    · simp only [fa_lt, fa_le, fa_eq, li_5] at c_6
      refine lv_iconst (v := 1) hx hb dX12_isRest_75 (by decide) ?_
      rw [hQ]
      refine W.widen (k := 0) (n := 0) (Nat.le_refl _) (Nat.le_refl _) ?_
      exact W.zret (v := 1) hx hb hr rfl (fun t ht hW => ⟨⟨1, w3, rfl, ⟨(by decide), (by decide), hw.2.2.2.2, hM⟩, by rw [ht]; exact hw.2.1, va_K.moved hW.alike hw.1, hw.2.2.1⟩, hw.2.2.2.1.F ht⟩) hw.2.2.2.1.2.2 dX12_isRest_76
    · simp only [fa_lt, fa_le, fa_eq, li_5] at c_6
      refine lv_aload_n hx hb dX12_isRest_9 rfl (lv_at hl 0 rfl) ?_
      refine lv_iload_n hx hb dX12_isRest_10 rfl (lv_at hl 1 rfl) ?_
      refine lv_iload hx hb dX12_isRest_11 (lv_at hl 5 rfl) ?_
      refine lv_iconst (v := 5) hx hb dX12_isRest_13 (by decide) ?_
      refine lv_iload hx hb dX12_isRest_14 (lv_at hl 5 rfl) ?_
      refine lv_imul hx hb dX12_isRest_16 ?_
      refine lv_topi (fun v16 e_v16 => ?_)
      have e_v16 : v16.toInt = 5 * p3_l5.toInt := ml_i e_v16 li_5 rfl (by omega) (by omega)
      refine lv_iload hx hb dX12_isRest_17 (lv_at hl 4 rfl) ?_
      refine lv_iadd hx hb dX12_isRest_19 ?_
      refine lv_topi (fun v19 e_v19 => ?_)
      have e_v19 : v19.toInt = v16.toInt + a4.toInt := ad_i e_v19 rfl rfl (by omega) (by omega)
      refine t_calli (va_runV (As := [.int a1, .int p3_l5, .int v19]) (rest := []) ⟨hx, hb, hml, hown, hts⟩ (t_X12_gainBy l dC dI tys κ B w3 hw.2.2.2.2 a0 k_a0 a1 (by omega) (by omega) p3_l5 (by omega) (by omega) v19 (by omega) (by omega) H.size) (cwV 3 hts (gUV tw_1668 tw_1670 ts_7_11 tw_13 tw_1671) rfl rfl rfl (by decide +kernel) ⟨(Nat.le_of_ble_eq_true rfl), (Nat.le_of_ble_eq_true rfl)⟩) ⟨cPre.blind, t_recv hw (ci := 12) k_a0 rfl rfl, cPre.use hw.2.1 hw.1 hw.2.2.1 hE⟩ rfl rfl hl.1 rfl (lv_room (Nat.le_of_ble_eq_true rfl)) dX12_isRest_20 ⟨(Nat.le_of_ble_eq_true rfl), (Nat.le_of_ble_eq_true rfl)⟩) hw hA (fun _ _ h => h.2.2.1) (fun v20 w_1 H locs hp hw => ?_)
      obtain ⟨l_v20, h_v20, _, hm⟩ := hp
      have hM := hM.trans hm (by decide) (by decide)
      refine lv_aload_n hx hb dX12_isRest_23 rfl (lv_at hl 0 rfl) ?_
      refine lv_iload_n hx hb dX12_isRest_24 rfl (lv_at hl 1 rfl) ?_
      refine lv_iload_n hx hb dX12_isRest_25 rfl (lv_at hl 3 rfl) ?_
      refine lv_iconst (v := 5) hx hb dX12_isRest_26 (by decide) ?_
      refine lv_iload_n hx hb dX12_isRest_27 rfl (lv_at hl 3 rfl) ?_
      refine lv_imul hx hb dX12_isRest_28 ?_
      refine lv_topi (fun v28 e_v28 => ?_)
      have e_v28 : v28.toInt = 5 * a3.toInt := ml_i e_v28 li_5 rfl (by omega) (by omega)
      refine lv_iload hx hb dX12_isRest_29 (lv_at hl 4 rfl) ?_
      refine lv_iadd hx hb dX12_isRest_31 ?_
      refine lv_topi (fun v31 e_v31 => ?_)
      have e_v31 : v31.toInt = v28.toInt + a4.toInt := ad_i e_v31 rfl rfl (by omega) (by omega)
      refine t_calli (va_runV (As := [.int a1, .int a3, .int v31]) (rest := [.int v20]) ⟨hx, hb, hml, hown, hts⟩ (t_X12_gainBy l dC dI tys κ B w_1 hw.2.2.2.2 a0 k_a0 a1 (by omega) (by omega) a3 (by omega) (by omega) v31 (by omega) (by omega) H.size) (cwV 3 hts (gUV tw_1668 tw_1670 ts_7_11 tw_13 tw_1671) rfl rfl rfl (by decide +kernel) ⟨(Nat.le_of_ble_eq_true rfl), (Nat.le_of_ble_eq_true rfl)⟩) ⟨cPre.blind, t_recv hw (ci := 12) k_a0 rfl rfl, cPre.use hw.2.1 hw.1 hw.2.2.1 hE⟩ rfl rfl hl.1 rfl (lv_room (Nat.le_of_ble_eq_true rfl)) dX12_isRest_32 ⟨(Nat.le_of_ble_eq_true rfl), (Nat.le_of_ble_eq_true rfl)⟩) hw hA (fun _ _ h => h.2.2.1) (fun v32 w_2 H locs hp hw => ?_)
      obtain ⟨l_v32, h_v32, _, hm⟩ := hp
      have hM := hM.trans hm (by decide) (by decide)
      refine lv_icmp_gt (tgt := 67) hx hb dX12_isRest_35 (by decide) (fun c_35 => ?_) (fun c_35 => ?_)
      · simp only [fa_lt, fa_le, fa_eq] at c_35
        refine lv_iconst (v := 0) hx hb dX12_isRest_67 (by decide) ?_
        rw [hQ]
        refine W.widen (k := 0) (n := 0) (Nat.le_refl _) (Nat.le_refl _) ?_
        exact W.zret (v := 0) hx hb hr rfl (fun t ht hW => ⟨⟨0, w_2, rfl, ⟨(by decide), (by decide), hw.2.2.2.2, hM⟩, by rw [ht]; exact hw.2.1, va_K.moved hW.alike hw.1, hw.2.2.1⟩, hw.2.2.2.1.F ht⟩) hw.2.2.2.1.2.2 dX12_isRest_68
      · simp only [fa_lt, fa_le, fa_eq] at c_35
        refine lv_aload_n hx hb dX12_isRest_38 rfl (lv_at hl 0 rfl) ?_
        refine lv_iload_n hx hb dX12_isRest_39 rfl (lv_at hl 2 rfl) ?_
        refine lv_iload hx hb dX12_isRest_40 (lv_at hl 5 rfl) ?_
        refine lv_iconst (v := 5) hx hb dX12_isRest_42 (by decide) ?_
        refine lv_iload_n hx hb dX12_isRest_43 rfl (lv_at hl 3 rfl) ?_
        refine lv_imul hx hb dX12_isRest_44 ?_
        refine lv_topi (fun v44 e_v44 => ?_)
        have e_v44 : v44.toInt = 5 * a3.toInt := ml_i e_v44 li_5 rfl (by omega) (by omega)
        refine lv_iload hx hb dX12_isRest_45 (lv_at hl 5 rfl) ?_
        refine lv_iadd hx hb dX12_isRest_47 ?_
        refine lv_topi (fun v47 e_v47 => ?_)
        have e_v47 : v47.toInt = v44.toInt + p3_l5.toInt := ad_i e_v47 rfl rfl (by omega) (by omega)
        refine t_calli (va_runV (As := [.int a2, .int p3_l5, .int v47]) (rest := []) ⟨hx, hb, hml, hown, hts⟩ (t_X12_gainBy l dC dI tys κ B w_2 hw.2.2.2.2 a0 k_a0 a2 (by omega) (by omega) p3_l5 (by omega) (by omega) v47 (by omega) (by omega) H.size) (cwV 3 hts (gUV tw_1668 tw_1670 ts_7_11 tw_13 tw_1671) rfl rfl rfl (by decide +kernel) ⟨(Nat.le_of_ble_eq_true rfl), (Nat.le_of_ble_eq_true rfl)⟩) ⟨cPre.blind, t_recv hw (ci := 12) k_a0 rfl rfl, cPre.use hw.2.1 hw.1 hw.2.2.1 hE⟩ rfl rfl hl.1 rfl (lv_room (Nat.le_of_ble_eq_true rfl)) dX12_isRest_48 ⟨(Nat.le_of_ble_eq_true rfl), (Nat.le_of_ble_eq_true rfl)⟩) hw hA (fun _ _ h => h.2.2.1) (fun v48 w_3 H locs hp hw => ?_)
        obtain ⟨l_v48, h_v48, _, hm⟩ := hp
        have hM := hM.trans hm (by decide) (by decide)
        refine lv_aload_n hx hb dX12_isRest_51 rfl (lv_at hl 0 rfl) ?_
        refine lv_iload_n hx hb dX12_isRest_52 rfl (lv_at hl 2 rfl) ?_
        refine lv_iload hx hb dX12_isRest_53 (lv_at hl 4 rfl) ?_
        refine lv_iconst (v := 5) hx hb dX12_isRest_55 (by decide) ?_
        refine lv_iload_n hx hb dX12_isRest_56 rfl (lv_at hl 3 rfl) ?_
        refine lv_imul hx hb dX12_isRest_57 ?_
        refine lv_topi (fun v57 e_v57 => ?_)
        have e_v57 : v57.toInt = 5 * a3.toInt := ml_i e_v57 li_5 rfl (by omega) (by omega)
        refine lv_iload hx hb dX12_isRest_58 (lv_at hl 4 rfl) ?_
        refine lv_iadd hx hb dX12_isRest_60 ?_
        refine lv_topi (fun v60 e_v60 => ?_)
        have e_v60 : v60.toInt = v57.toInt + a4.toInt := ad_i e_v60 rfl rfl (by omega) (by omega)
        refine t_calli (va_runV (As := [.int a2, .int a4, .int v60]) (rest := [.int v48]) ⟨hx, hb, hml, hown, hts⟩ (t_X12_gainBy l dC dI tys κ B w_3 hw.2.2.2.2 a0 k_a0 a2 (by omega) (by omega) a4 (by omega) (by omega) v60 (by omega) (by omega) H.size) (cwV 3 hts (gUV tw_1668 tw_1670 ts_7_11 tw_13 tw_1671) rfl rfl rfl (by decide +kernel) ⟨(Nat.le_of_ble_eq_true rfl), (Nat.le_of_ble_eq_true rfl)⟩) ⟨cPre.blind, t_recv hw (ci := 12) k_a0 rfl rfl, cPre.use hw.2.1 hw.1 hw.2.2.1 hE⟩ rfl rfl hl.1 rfl (lv_room (Nat.le_of_ble_eq_true rfl)) dX12_isRest_61 ⟨(Nat.le_of_ble_eq_true rfl), (Nat.le_of_ble_eq_true rfl)⟩) hw hA (fun _ _ h => h.2.2.1) (fun v61 w_4 H locs hp hw => ?_)
        obtain ⟨l_v61, h_v61, _, hm⟩ := hp
        have hM := hM.trans hm (by decide) (by decide)
        refine lv_icmp_le (tgt := 69) hx hb dX12_isRest_64 (by decide) (fun c_64 => ?_) (fun c_64 => ?_)
        · simp only [fa_lt, fa_le, fa_eq] at c_64
          obtain ⟨v69, e_v69⟩ : ∃ y : Int32, y = p3_l5 + 1 := ⟨_, rfl⟩
          refine lv_iinc (v := v69) (lv' := [(5, .int v69), (0, .ref a0), (1, .int a1), (2, .int a2), (3, .int a3), (4, .int a4)]) hx hb dX12_isRest_69 hl (k := 5) rfl e_v69.symm (by decide) rfl (fun ls hl => ?_)
          have e_v69 : v69.toInt = p3_l5.toInt + 1 := ad_i e_v69 rfl li_1 (by omega) (by omega)
          refine lv_goto (tgt := 3) hx hb dX12_isRest_72 (by decide) ?_
          exact ih_3 _ _ _ _ (by omega) ⟨w_4, v69, hw, hM, (by omega), (by omega), (lv_sub hl [1, 2, 3, 4, 5, 0] rfl), rfl⟩
        · simp only [fa_lt, fa_le, fa_eq] at c_64
          refine lv_iconst (v := 0) hx hb dX12_isRest_67 (by decide) ?_
          rw [hQ]
          refine W.widen (k := 0) (n := 0) (Nat.le_refl _) (Nat.le_refl _) ?_
          exact W.zret (v := 0) hx hb hr rfl (fun t ht hW => ⟨⟨0, w_4, rfl, ⟨(by decide), (by decide), hw.2.2.2.2, hM⟩, by rw [ht]; exact hw.2.1, va_K.moved hW.alike hw.1, hw.2.2.1⟩, hw.2.2.2.1.F ht⟩) hw.2.2.2.1.2.2 dX12_isRest_68
  exact J3 _ _ _ _ ⟨ws, 0, hw, hM, (by decide), (by decide), (lv_sub hl [1, 2, 3, 4, 5, 0] rfl), rfl⟩
