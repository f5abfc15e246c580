theorem ts_2_11 : Cond.selects "BoyBishop$Chronicle" ⟨"BoyBishop$Chronicle", "isFitting", "(I)Z"⟩ ⟨"BoyBishop$Chronicle", "isFitting", "(I)Z"⟩ ∈ gT := gT_in (List.mem_append_left _ (List.mem_map.mpr ⟨(⟨"BoyBishop$Chronicle", "isFitting", "(I)Z"⟩, 5), (List.mem_append_right _ (List.mem_append_right _ (List.mem_append_left _ (List.mem_of_getElem? (i := 11) rfl)))), rfl⟩)) rfl
theorem ts_2_12 : Cond.selects "BoyBishop$Chronicle" ⟨"BoyBishop$Chronicle", "countAlike", "(II)I"⟩ ⟨"BoyBishop$Chronicle", "countAlike", "(II)I"⟩ ∈ gT := gT_in (List.mem_append_left _ (List.mem_map.mpr ⟨(⟨"BoyBishop$Chronicle", "countAlike", "(II)I"⟩, 5), (List.mem_append_right _ (List.mem_append_right _ (List.mem_append_left _ (List.mem_of_getElem? (i := 12) rfl)))), rfl⟩)) rfl
theorem tw_1006 : (Jvm.Cond.methodLink "BoyBishop" (304 : Nat) ({ cls := "BoyBishop$Standing", name := "partUpwards", desc := "(III)I" } : Jvm.MethodName)) ∈ gT := gT_in (List.mem_append_right _ (List.mem_append_right _ (List.mem_append_right _ (List.mem_append_right _ (List.mem_append_right _ (List.mem_append_left _ (List.mem_of_getElem? (i := 46) rfl))))))) rfl
theorem tw_104 : (Jvm.Cond.fieldLink "BoyBishop" (155 : Nat) "BoyBishop$Choir" "likes" "[I") ∈ gT := gT_in (List.mem_append_right _ (List.mem_append_left _ (List.mem_of_getElem? (i := 104) rfl))) rfl
theorem tw_1041 : (Jvm.Cond.methodLink "BoyBishop$Chronicle" (72 : Nat) ({ cls := "BoyBishop$Chronicle", name := "isFitting", desc := "(I)Z" } : Jvm.MethodName)) ∈ gT := gT_in (List.mem_append_right _ (List.mem_append_right _ (List.mem_append_right _ (List.mem_append_right _ (List.mem_append_right _ (List.mem_append_left _ (List.mem_of_getElem? (i := 81) rfl))))))) rfl
theorem tw_1043 : (Jvm.Cond.instanceMethod ({ cls := "BoyBishop$Chronicle", name := "isFitting", desc := "(I)Z" } : Jvm.MethodName)) ∈ gT := gT_in (List.mem_append_right _ (List.mem_append_right _ (List.mem_append_right _ (List.mem_append_right _ (List.mem_append_right _ (List.mem_append_left _ (List.mem_of_getElem? (i := 83) rfl))))))) rfl
theorem tw_1044 : (Jvm.Cond.code ({ cls := "BoyBishop$Chronicle", name := "isFitting", desc := "(I)Z" } : Jvm.MethodName) prog_4_method_5_code (2 : Nat) (Option.some Jvm.ClassFile.FieldType.boolean)) ∈ gT := gT_in (List.mem_append_right _ (List.mem_append_right _ (List.mem_append_right _ (List.mem_append_right _ (List.mem_append_right _ (List.mem_append_left _ (List.mem_of_getElem? (i := 84) rfl))))))) rfl
theorem tw_1053 : (Jvm.Cond.methodLink "BoyBishop$Chronicle" (76 : Nat) ({ cls := "BoyBishop$Chronicle", name := "mostAlike", desc := "(I)I" } : Jvm.MethodName)) ∈ gT := gT_in (List.mem_append_right _ (List.mem_append_right _ (List.mem_append_right _ (List.mem_append_right _ (List.mem_append_right _ (List.mem_append_left _ (List.mem_of_getElem? (i := 93) rfl))))))) rfl
theorem tw_1054 : (Jvm.Cond.instanceMethod ({ cls := "BoyBishop$Chronicle", name := "mostAlike", desc := "(I)I" } : Jvm.MethodName)) ∈ gT := gT_in (List.mem_append_right _ (List.mem_append_right _ (List.mem_append_right _ (List.mem_append_right _ (List.mem_append_right _ (List.mem_append_left _ (List.mem_of_getElem? (i := 94) rfl))))))) rfl
theorem tw_1055 : (Jvm.Cond.selects "BoyBishop$Chronicle" ({ cls := "BoyBishop$Chronicle", name := "mostAlike", desc := "(I)I" } : Jvm.MethodName) ({ cls := "BoyBishop$Chronicle", name := "mostAlike", desc := "(I)I" } : Jvm.MethodName)) ∈ gT := gT_in (List.mem_append_right _ (List.mem_append_right _ (List.mem_append_right _ (List.mem_append_right _ (List.mem_append_right _ (List.mem_append_left _ (List.mem_of_getElem? (i := 95) rfl))))))) rfl
theorem tw_1056 : (Jvm.Cond.code ({ cls := "BoyBishop$Chronicle", name := "mostAlike", desc := "(I)I" } : Jvm.MethodName) prog_4_method_8_code (4 : Nat) (Option.some Jvm.ClassFile.FieldType.int)) ∈ gT := gT_in (List.mem_append_right _ (List.mem_append_right _ (List.mem_append_right _ (List.mem_append_right _ (List.mem_append_right _ (List.mem_append_left _ (List.mem_of_getElem? (i := 96) rfl))))))) rfl
theorem tw_1057 : (Jvm.Cond.methodLink "BoyBishop$Chronicle" (80 : Nat) ({ cls := "BoyBishop$Chronicle", name := "countAlike", desc := "(II)I" } : Jvm.MethodName)) ∈ gT := gT_in (List.mem_append_right _ (List.mem_append_right _ (List.mem_append_right _ (List.mem_append_right _ (List.mem_append_right _ (List.mem_append_left _ (List.mem_of_getElem? (i := 97) rfl))))))) rfl
theorem tw_1059 : (Jvm.Cond.instanceMethod ({ cls := "BoyBishop$Chronicle", name := "countAlike", desc := "(II)I" } : Jvm.MethodName)) ∈ gT := gT_in (List.mem_append_right _ (List.mem_append_right _ (List.mem_append_right _ (List.mem_append_right _ (List.mem_append_right _ (List.mem_append_left _ (List.mem_of_getElem? (i := 99) rfl))))))) rfl
theorem tw_1060 : (Jvm.Cond.code ({ cls := "BoyBishop$Chronicle", name := "countAlike", desc := "(II)I" } : Jvm.MethodName) prog_4_method_9_code (5 : Nat) (Option.some Jvm.ClassFile.FieldType.int)) ∈ gT := gT_in (List.mem_append_right _ (List.mem_append_right _ (List.mem_append_right _ (List.mem_append_right _ (List.mem_append_right _ (List.mem_append_left _ (List.mem_of_getElem? (i := 100) rfl))))))) rfl
theorem tw_1061 : (Jvm.Cond.methodLink "BoyBishop$Chronicle" (84 : Nat) ({ cls := "java/lang/Math", name := "max", desc := "(II)I" } : Jvm.MethodName)) ∈ gT := gT_in (List.mem_append_right _ (List.mem_append_right _ (List.mem_append_right _ (List.mem_append_right _ (List.mem_append_right _ (List.mem_append_left _ (List.mem_of_getElem? (i := 101) rfl))))))) rfl
theorem tw_12 : (Jvm.Cond.initialized "BoyBishop$Chronicle") ∈ gT := gT_in (List.mem_append_right _ (List.mem_append_left _ (List.mem_of_getElem? (i := 12) rfl))) rfl
theorem tw_353 : (Jvm.Cond.fieldLink "BoyBishop" (258 : Nat) "BoyBishop$Poll" "chosen" "I") ∈ gT := gT_in (List.mem_append_right _ (List.mem_append_right _ (List.mem_append_left _ (List.mem_of_getElem? (i := 113) rfl)))) rfl
theorem tw_406 : (Jvm.Cond.fieldLink "BoyBishop$Chronicle" (22 : Nat) "BoyBishop$Chronicle" "bishops" "[I") ∈ gT := gT_in (List.mem_append_right _ (List.mem_append_right _ (List.mem_append_left _ (List.mem_of_getElem? (i := 166) rfl)))) rfl
theorem tw_408 : (Jvm.Cond.fieldLink "BoyBishop$Chronicle" (32 : Nat) "BoyBishop$Chronicle" "fitting" "I") ∈ gT := gT_in (List.mem_append_right _ (List.mem_append_right _ (List.mem_append_left _ (List.mem_of_getElem? (i := 168) rfl)))) rfl
theorem tw_431 : (Jvm.Cond.fieldLink "BoyBishop" (67 : Nat) "BoyBishop" "poll" "LBoyBishop$Poll;") ∈ gT := gT_in (List.mem_append_right _ (List.mem_append_right _ (List.mem_append_left _ (List.mem_of_getElem? (i := 191) rfl)))) rfl
theorem tw_859 : (Jvm.Cond.static ({ cls := "BoyBishop$Standing", name := "partUpwards", desc := "(III)I" } : Jvm.MethodName)) ∈ gT := gT_in (List.mem_append_right _ (List.mem_append_right _ (List.mem_append_right _ (List.mem_append_right _ (List.mem_append_left _ (List.mem_of_getElem? (i := 139) rfl)))))) rfl
theorem tw_860 : (Jvm.Cond.code ({ cls := "BoyBishop$Standing", name := "partUpwards", desc := "(III)I" } : Jvm.MethodName) prog_10_method_11_code (3 : Nat) (Option.some Jvm.ClassFile.FieldType.int)) ∈ gT := gT_in (List.mem_append_right _ (List.mem_append_right _ (List.mem_append_right _ (List.mem_append_right _ (List.mem_append_left _ (List.mem_of_getElem? (i := 140) rfl)))))) rfl
theorem tw_903 : (Jvm.Cond.methodLink "BoyBishop" (248 : Nat) ({ cls := "BoyBishop$Poll", name := "hold", desc := "(LBoyBishop$Choir;LBoyBishop$Standing;LBoyBishop$Rule;)V" } : Jvm.MethodName)) ∈ gT := gT_in (List.mem_append_right _ (List.mem_append_right _ (List.mem_append_right _ (List.mem_append_right _ (List.mem_append_left _ (List.mem_of_getElem? (i := 183) rfl)))))) rfl
theorem dX11_force_0 : decode cX11_force 0 = .ok (.iload_n 1, 1) := by decide +kernel
theorem dX11_force_1 : decode cX11_force 1 = .ok (.iconst (-1), 1) := by decide +kernel
theorem dX11_force_2 : decode cX11_force 2 = .ok (.if_icmp .lt 11, 3) := by decide +kernel
theorem dX11_force_5 : decode cX11_force 5 = .ok (.iload_n 1, 1) := by decide +kernel
theorem dX11_force_6 : decode cX11_force 6 = .ok (.aload_n 0, 1) := by decide +kernel
theorem dX11_force_7 : decode cX11_force 7 = .ok (.getfield 130, 3) := by decide +kernel
theorem dX11_force_10 : decode cX11_force 10 = .ok (.if_icmp .lt 6, 3) := by decide +kernel
theorem dX11_force_13 : decode cX11_force 13 = .ok (.bipush (-2), 2) := by decide +kernel
theorem dX11_force_15 : decode cX11_force 15 = .ok (.ireturn, 1) := by decide +kernel
theorem dX11_force_16 : decode cX11_force 16 = .ok (.aload_n 0, 1) := by decide +kernel
theorem dX11_force_17 : decode cX11_force 17 = .ok (.getfield 45, 3) := by decide +kernel
theorem dX11_force_20 : decode cX11_force 20 = .ok (.getfield 136, 3) := by decide +kernel
theorem dX11_force_23 : decode cX11_force 23 = .ok (.istore_n 2, 1) := by decide +kernel
theorem dX11_force_24 : decode cX11_force 24 = .ok (.aload_n 0, 1) := by decide +kernel
theorem dX11_force_25 : decode cX11_force 25 = .ok (.getfield 45, 3) := by decide +kernel
theorem dX11_force_28 : decode cX11_force 28 = .ok (.iload_n 1, 1) := by decide +kernel
theorem dX11_force_29 : decode cX11_force 29 = .ok (.putfield 136, 3) := by decide +kernel
theorem dX11_force_32 : decode cX11_force 32 = .ok (.iload_n 2, 1) := by decide +kernel
theorem dX11_force_33 : decode cX11_force 33 = .ok (.ireturn, 1) := by decide +kernel
theorem dX11_give_0 : decode cX11_give 0 = .ok (.aload_n 0, 1) := by decide +kernel
theorem dX11_give_1 : decode cX11_give 1 = .ok (.getfield 45, 3) := by decide +kernel
theorem dX11_give_4 : decode cX11_give 4 = .ok (.getfield 115, 3) := by decide +kernel
theorem dX11_give_7 : decode cX11_give 7 = .ok (.astore_n 3, 1) := by decide +kernel
theorem dX11_give_8 : decode cX11_give 8 = .ok (.aload_n 0, 1) := by decide +kernel
theorem dX11_give_9 : decode cX11_give 9 = .ok (.iload_n 1, 1) := by decide +kernel
theorem dX11_give_10 : decode cX11_give 10 = .ok (.invokevirtual 158, 3) := by decide +kernel
theorem dX11_give_13 : decode cX11_give 13 = .ok (.ifCond .eq 30, 3) := by decide +kernel
theorem dX11_give_16 : decode cX11_give 16 = .ok (.aload_n 3, 1) := by decide +kernel
theorem dX11_give_17 : decode cX11_give 17 = .ok (.getfield 167, 3) := by decide +kernel
theorem dX11_give_20 : decode cX11_give 20 = .ok (.iload_n 1, 1) := by decide +kernel
theorem dX11_give_21 : decode cX11_give 21 = .ok (.ishr, 1) := by decide +kernel
theorem dX11_give_22 : decode cX11_give 22 = .ok (.iconst 1, 1) := by decide +kernel
theorem dX11_give_23 : decode cX11_give 23 = .ok (.iand, 1) := by decide +kernel
theorem dX11_give_24 : decode cX11_give 24 = .ok (.ifCond .eq 19, 3) := by decide +kernel
theorem dX11_give_27 : decode cX11_give 27 = .ok (.aload_n 0, 1) := by decide +kernel
theorem dX11_give_28 : decode cX11_give 28 = .ok (.iload_n 2, 1) := by decide +kernel
theorem dX11_give_29 : decode cX11_give 29 = .ok (.invokevirtual 228, 3) := by decide +kernel
theorem dX11_give_32 : decode cX11_give 32 = .ok (.ifCond .eq 11, 3) := by decide +kernel
theorem dX11_give_35 : decode cX11_give 35 = .ok (.aload_n 3, 1) := by decide +kernel
theorem dX11_give_36 : decode cX11_give 36 = .ok (.getfield 213, 3) := by decide +kernel
theorem dX11_give_39 : decode cX11_give 39 = .ok (.iconst (-1), 1) := by decide +kernel
theorem dX11_give_40 : decode cX11_give 40 = .ok (.if_icmp .ne 5, 3) := by decide +kernel
theorem dX11_give_43 : decode cX11_give 43 = .ok (.iconst (-1), 1) := by decide +kernel
theorem dX11_give_44 : decode cX11_give 44 = .ok (.ireturn, 1) := by decide +kernel
theorem dX11_give_45 : decode cX11_give 45 = .ok (.aload_n 0, 1) := by decide +kernel
theorem dX11_give_46 : decode cX11_give 46 = .ok (.getfield 60, 3) := by decide +kernel
theorem dX11_give_49 : decode cX11_give 49 = .ok (.aload_n 3, 1) := by decide +kernel
theorem dX11_give_50 : decode cX11_give 50 = .ok (.invokevirtual 201, 3) := by decide +kernel
theorem dX11_give_53 : decode cX11_give 53 = .ok (.aload_n 3, 1) := by decide +kernel
theorem dX11_give_54 : decode cX11_give 54 = .ok (.dup, 1) := by decide +kernel
theorem dX11_give_55 : decode cX11_give 55 = .ok (.getfield 167, 3) := by decide +kernel
theorem dX11_give_58 : decode cX11_give 58 = .ok (.iconst 1, 1) := by decide +kernel
theorem dX11_give_59 : decode cX11_give 59 = .ok (.iload_n 1, 1) := by decide +kernel
theorem dX11_give_60 : decode cX11_give 60 = .ok (.ishl, 1) := by decide +kernel
theorem dX11_give_61 : decode cX11_give 61 = .ok (.iconst (-1), 1) := by decide +kernel
theorem dX11_give_62 : decode cX11_give 62 = .ok (.ixor, 1) := by decide +kernel
theorem dX11_give_63 : decode cX11_give 63 = .ok (.iand, 1) := by decide +kernel
theorem dX11_give_64 : decode cX11_give 64 = .ok (.putfield 167, 3) := by decide +kernel
theorem dX11_give_67 : decode cX11_give 67 = .ok (.aload_n 3, 1) := by decide +kernel
theorem dX11_give_68 : decode cX11_give 68 = .ok (.getfield 170, 3) := by decide +kernel
theorem dX11_give_71 : decode cX11_give 71 = .ok (.iload_n 2, 1) := by decide +kernel
theorem dX11_give_72 : decode cX11_give 72 = .ok (.iload_n 1, 1) := by decide +kernel
theorem dX11_give_73 : decode cX11_give 73 = .ok (.iastore, 1) := by decide +kernel
theorem dX11_give_74 : decode cX11_give 74 = .ok (.aload_n 0, 1) := by decide +kernel
theorem dX11_give_75 : decode cX11_give 75 = .ok (.getfield 45, 3) := by decide +kernel
theorem dX11_give_78 : decode cX11_give 78 = .ok (.getfield 53, 3) := by decide +kernel
theorem dX11_give_81 : decode cX11_give 81 = .ok (.getfield 164, 3) := by decide +kernel
theorem dX11_give_84 : decode cX11_give 84 = .ok (.iload_n 1, 1) := by decide +kernel
theorem dX11_give_85 : decode cX11_give 85 = .ok (.iaload, 1) := by decide +kernel
theorem dX11_give_86 : decode cX11_give 86 = .ok (.ireturn, 1) := by decide +kernel
theorem dX11_image_0 : decode cX11_image 0 = .ok (.iload_n 1, 1) := by decide +kernel
theorem dX11_image_1 : decode cX11_image 1 = .ok (.ifCond .lt 8, 3) := by decide +kernel
theorem dX11_image_4 : decode cX11_image 4 = .ok (.iload_n 1, 1) := by decide +kernel
theorem dX11_image_5 : decode cX11_image 5 = .ok (.iconst 4, 1) := by decide +kernel
theorem dX11_image_6 : decode cX11_image 6 = .ok (.if_icmp .lt 5, 3) := by decide +kernel
theorem dX11_image_9 : decode cX11_image 9 = .ok (.iconst (-1), 1) := by decide +kernel
theorem dX11_image_10 : decode cX11_image 10 = .ok (.ireturn, 1) := by decide +kernel
theorem dX11_image_11 : decode cX11_image 11 = .ok (.aload_n 0, 1) := by decide +kernel
theorem dX11_image_12 : decode cX11_image 12 = .ok (.getfield 49, 3) := by decide +kernel
theorem dX11_image_15 : decode cX11_image 15 = .ok (.iload_n 1, 1) := by decide +kernel
theorem dX11_image_16 : decode cX11_image 16 = .ok (.aaload, 1) := by decide +kernel
theorem dX11_image_17 : decode cX11_image 17 = .ok (.aload_n 0, 1) := by decide +kernel
theorem dX11_image_18 : decode cX11_image 18 = .ok (.getfield 45, 3) := by decide +kernel
theorem dX11_image_21 : decode cX11_image 21 = .ok (.invokevirtual 373, 3) := by decide +kernel
theorem dX11_image_24 : decode cX11_image 24 = .ok (.aload_n 0, 1) := by decide +kernel
theorem dX11_image_25 : decode cX11_image 25 = .ok (.getfield 49, 3) := by decide +kernel
theorem dX11_image_28 : decode cX11_image 28 = .ok (.iload_n 1, 1) := by decide +kernel
theorem dX11_image_29 : decode cX11_image 29 = .ok (.aaload, 1) := by decide +kernel
theorem dX11_image_30 : decode cX11_image 30 = .ok (.iconst 1, 1) := by decide +kernel
theorem dX11_image_31 : decode cX11_image 31 = .ok (.putfield 376, 3) := by decide +kernel
theorem dX11_image_34 : decode cX11_image 34 = .ok (.aload_n 0, 1) := by decide +kernel
theorem dX11_image_35 : decode cX11_image 35 = .ok (.getfield 45, 3) := by decide +kernel
theorem dX11_image_38 : decode cX11_image 38 = .ok (.getfield 115, 3) := by decide +kernel
theorem dX11_image_41 : decode cX11_image 41 = .ok (.getfield 198, 3) := by decide +kernel
theorem dX11_image_44 : decode cX11_image 44 = .ok (.ireturn, 1) := by decide +kernel
theorem dX11_least_0 : decode cX11_least 0 = .ok (.aload_n 0, 1) := by decide +kernel
theorem dX11_least_1 : decode cX11_least 1 = .ok (.iload_n 1, 1) := by decide +kernel
theorem dX11_least_2 : decode cX11_least 2 = .ok (.invokevirtual 231, 3) := by decide +kernel
theorem dX11_least_5 : decode cX11_least 5 = .ok (.ifCond .ne 5, 3) := by decide +kernel
theorem dX11_least_8 : decode cX11_least 8 = .ok (.iconst (-1), 1) := by decide +kernel
theorem dX11_least_9 : decode cX11_least 9 = .ok (.ireturn, 1) := by decide +kernel
theorem dX11_least_10 : decode cX11_least 10 = .ok (.aload_n 0, 1) := by decide +kernel
theorem dX11_least_11 : decode cX11_least 11 = .ok (.getfield 92, 3) := by decide +kernel
theorem dX11_least_14 : decode cX11_least 14 = .ok (.aload_n 0, 1) := by decide +kernel
theorem dX11_least_15 : decode cX11_least 15 = .ok (.getfield 45, 3) := by decide +kernel
theorem dX11_least_18 : decode cX11_least 18 = .ok (.getfield 115, 3) := by decide +kernel
theorem dX11_least_21 : decode cX11_least 21 = .ok (.invokevirtual 245, 3) := by decide +kernel
theorem dX11_least_24 : decode cX11_least 24 = .ok (.iconst 0, 1) := by decide +kernel
theorem dX11_least_25 : decode cX11_least 25 = .ok (.istore_n 2, 1) := by decide +kernel
theorem dX11_least_26 : decode cX11_least 26 = .ok (.iload_n 2, 1) := by decide +kernel
theorem dX11_least_27 : decode cX11_least 27 = .ok (.bipush 20, 2) := by decide +kernel
theorem dX11_least_29 : decode cX11_least 29 = .ok (.if_icmp .gt 54, 3) := by decide +kernel
theorem dX11_least_32 : decode cX11_least 32 = .ok (.aload_n 0, 1) := by decide +kernel
theorem dX11_least_33 : decode cX11_least 33 = .ok (.getfield 92, 3) := by decide +kernel
theorem dX11_least_36 : decode cX11_least 36 = .ok (.getfield 146, 3) := by decide +kernel
theorem dX11_least_39 : decode cX11_least 39 = .ok (.iload_n 1, 1) := by decide +kernel
theorem dX11_least_40 : decode cX11_least 40 = .ok (.iload_n 2, 1) := by decide +kernel
theorem dX11_least_41 : decode cX11_least 41 = .ok (.iastore, 1) := by decide +kernel
theorem dX11_least_42 : decode cX11_least 42 = .ok (.aload_n 0, 1) := by decide +kernel
theorem dX11_least_43 : decode cX11_least 43 = .ok (.getfield 67, 3) := by decide +kernel
theorem dX11_least_46 : decode cX11_least 46 = .ok (.aload_n 0, 1) := by decide +kernel
theorem dX11_least_47 : decode cX11_least 47 = .ok (.getfield 45, 3) := by decide +kernel
theorem dX11_least_50 : decode cX11_least 50 = .ok (.getfield 53, 3) := by decide +kernel
theorem dX11_least_53 : decode cX11_least 53 = .ok (.aload_n 0, 1) := by decide +kernel
theorem dX11_least_54 : decode cX11_least 54 = .ok (.getfield 92, 3) := by decide +kernel
theorem dX11_least_57 : decode cX11_least 57 = .ok (.aload_n 0, 1) := by decide +kernel
theorem dX11_least_58 : decode cX11_least 58 = .ok (.invokevirtual 205, 3) := by decide +kernel
theorem dX11_least_61 : decode cX11_least 61 = .ok (.invokevirtual 248, 3) := by decide +kernel
theorem dX11_least_64 : decode cX11_least 64 = .ok (.aload_n 0, 1) := by decide +kernel
theorem dX11_least_65 : decode cX11_least 65 = .ok (.getfield 67, 3) := by decide +kernel
theorem dX11_least_68 : decode cX11_least 68 = .ok (.getfield 258, 3) := by decide +kernel
theorem dX11_least_71 : decode cX11_least 71 = .ok (.iload_n 1, 1) := by decide +kernel
theorem dX11_least_72 : decode cX11_least 72 = .ok (.if_icmp .ne 5, 3) := by decide +kernel
theorem dX11_least_75 : decode cX11_least 75 = .ok (.iload_n 2, 1) := by decide +kernel
theorem dX11_least_76 : decode cX11_least 76 = .ok (.ireturn, 1) := by decide +kernel
theorem dX11_least_77 : decode cX11_least 77 = .ok (.iinc 2 1, 3) := by decide +kernel
theorem dX11_least_80 : decode cX11_least 80 = .ok (.goto (-54), 3) := by decide +kernel
theorem dX11_least_83 : decode cX11_least 83 = .ok (.bipush (-2), 2) := by decide +kernel
theorem dX11_least_85 : decode cX11_least 85 = .ok (.ireturn, 1) := by decide +kernel
theorem dX11_likely_0 : decode cX11_likely 0 = .ok (.aload_n 0, 1) := by decide +kernel
theorem dX11_likely_1 : decode cX11_likely 1 = .ok (.iload_n 1, 1) := by decide +kernel
theorem dX11_likely_2 : decode cX11_likely 2 = .ok (.invokevirtual 228, 3) := by decide +kernel
theorem dX11_likely_5 : decode cX11_likely 5 = .ok (.ifCond .eq 14, 3) := by decide +kernel
theorem dX11_likely_8 : decode cX11_likely 8 = .ok (.iload_n 2, 1) := by decide +kernel
theorem dX11_likely_9 : decode cX11_likely 9 = .ok (.iconst 1, 1) := by decide +kernel
theorem dX11_likely_10 : decode cX11_likely 10 = .ok (.if_icmp .lt 9, 3) := by decide +kernel
theorem dX11_likely_13 : decode cX11_likely 13 = .ok (.iload_n 2, 1) := by decide +kernel
theorem dX11_likely_14 : decode cX11_likely 14 = .ok (.bipush 60, 2) := by decide +kernel
theorem dX11_likely_16 : decode cX11_likely 16 = .ok (.if_icmp .le 5, 3) := by decide +kernel
theorem dX11_likely_19 : decode cX11_likely 19 = .ok (.iconst (-1), 1) := by decide +kernel
theorem dX11_likely_20 : decode cX11_likely 20 = .ok (.ireturn, 1) := by decide +kernel
theorem dX11_likely_21 : decode cX11_likely 21 = .ok (.sipush 10000, 3) := by decide +kernel
theorem dX11_likely_24 : decode cX11_likely 24 = .ok (.istore_n 3, 1) := by decide +kernel
theorem dX11_likely_25 : decode cX11_likely 25 = .ok (.iconst 0, 1) := by decide +kernel
theorem dX11_likely_26 : decode cX11_likely 26 = .ok (.istore 4, 2) := by decide +kernel
theorem dX11_likely_28 : decode cX11_likely 28 = .ok (.iload 4, 2) := by decide +kernel
theorem dX11_likely_30 : decode cX11_likely 30 = .ok (.iload_n 2, 1) := by decide +kernel
theorem dX11_likely_31 : decode cX11_likely 31 = .ok (.if_icmp .ge 31, 3) := by decide +kernel
theorem dX11_likely_34 : decode cX11_likely 34 = .ok (.iload_n 3, 1) := by decide +kernel
theorem dX11_likely_35 : decode cX11_likely 35 = .ok (.iload_n 3, 1) := by decide +kernel
theorem dX11_likely_36 : decode cX11_likely 36 = .ok (.aload_n 0, 1) := by decide +kernel
theorem dX11_likely_37 : decode cX11_likely 37 = .ok (.getfield 45, 3) := by decide +kernel
theorem dX11_likely_40 : decode cX11_likely 40 = .ok (.getfield 115, 3) := by decide +kernel
theorem dX11_likely_43 : decode cX11_likely 43 = .ok (.getfield 161, 3) := by decide +kernel
theorem dX11_likely_46 : decode cX11_likely 46 = .ok (.iload_n 1, 1) := by decide +kernel
theorem dX11_likely_47 : decode cX11_likely 47 = .ok (.iaload, 1) := by decide +kernel
theorem dX11_likely_48 : decode cX11_likely 48 = .ok (.sipush 1000, 3) := by decide +kernel
theorem dX11_likely_51 : decode cX11_likely 51 = .ok (.invokestatic 304, 3) := by decide +kernel
theorem dX11_likely_54 : decode cX11_likely 54 = .ok (.isub, 1) := by decide +kernel
theorem dX11_likely_55 : decode cX11_likely 55 = .ok (.istore_n 3, 1) := by decide +kernel
theorem dX11_likely_56 : decode cX11_likely 56 = .ok (.iinc 4 1, 3) := by decide +kernel
theorem dX11_likely_59 : decode cX11_likely 59 = .ok (.goto (-31), 3) := by decide +kernel
theorem dX11_likely_62 : decode cX11_likely 62 = .ok (.sipush 10000, 3) := by decide +kernel
theorem dX11_likely_65 : decode cX11_likely 65 = .ok (.iload_n 3, 1) := by decide +kernel
theorem dX11_likely_66 : decode cX11_likely 66 = .ok (.isub, 1) := by decide +kernel
theorem dX11_likely_67 : decode cX11_likely 67 = .ok (.ireturn, 1) := by decide +kernel
theorem dX11_likes_0 : decode cX11_likes 0 = .ok (.aload_n 0, 1) := by decide +kernel
theorem dX11_likes_1 : decode cX11_likes 1 = .ok (.iload_n 1, 1) := by decide +kernel
theorem dX11_likes_2 : decode cX11_likes 2 = .ok (.invokevirtual 139, 3) := by decide +kernel
theorem dX11_likes_5 : decode cX11_likes 5 = .ok (.ifCond .eq 11, 3) := by decide +kernel
theorem dX11_likes_8 : decode cX11_likes 8 = .ok (.aload_n 0, 1) := by decide +kernel
theorem dX11_likes_9 : decode cX11_likes 9 = .ok (.iload_n 2, 1) := by decide +kernel
theorem dX11_likes_10 : decode cX11_likes 10 = .ok (.invokevirtual 139, 3) := by decide +kernel
theorem dX11_likes_13 : decode cX11_likes 13 = .ok (.ifCond .ne 5, 3) := by decide +kernel
theorem dX11_likes_16 : decode cX11_likes 16 = .ok (.iconst (-1), 1) := by decide +kernel
theorem dX11_likes_17 : decode cX11_likes 17 = .ok (.ireturn, 1) := by decide +kernel
theorem dX11_likes_18 : decode cX11_likes 18 = .ok (.aload_n 0, 1) := by decide +kernel
theorem dX11_likes_19 : decode cX11_likes 19 = .ok (.getfield 45, 3) := by decide +kernel
theorem dX11_likes_22 : decode cX11_likes 22 = .ok (.getfield 53, 3) := by decide +kernel
theorem dX11_likes_25 : decode cX11_likes 25 = .ok (.getfield 155, 3) := by decide +kernel
theorem dX11_likes_28 : decode cX11_likes 28 = .ok (.iload_n 1, 1) := by decide +kernel
theorem dX11_likes_29 : decode cX11_likes 29 = .ok (.bipush 6, 2) := by decide +kernel
theorem dX11_likes_31 : decode cX11_likes 31 = .ok (.imul, 1) := by decide +kernel
theorem dX11_likes_32 : decode cX11_likes 32 = .ok (.iload_n 2, 1) := by decide +kernel
theorem dX11_likes_33 : decode cX11_likes 33 = .ok (.iadd, 1) := by decide +kernel
theorem dX11_likes_34 : decode cX11_likes 34 = .ok (.iaload, 1) := by decide +kernel
theorem dX11_likes_35 : decode cX11_likes 35 = .ok (.ireturn, 1) := by decide +kernel
theorem dX2_bestDay_0 : decode cX2_bestDay 0 = .ok (.iconst 0, 1) := by decide +kernel
theorem dX2_bestDay_1 : decode cX2_bestDay 1 = .ok (.istore_n 1, 1) := by decide +kernel
theorem dX2_bestDay_2 : decode cX2_bestDay 2 = .ok (.aload_n 0, 1) := by decide +kernel
theorem dX2_bestDay_3 : decode cX2_bestDay 3 = .ok (.iconst 0, 1) := by decide +kernel
theorem dX2_bestDay_4 : decode cX2_bestDay 4 = .ok (.invokevirtual 76, 3) := by decide +kernel
theorem dX2_bestDay_7 : decode cX2_bestDay 7 = .ok (.istore_n 2, 1) := by decide +kernel
theorem dX2_bestDay_8 : decode cX2_bestDay 8 = .ok (.iconst 1, 1) := by decide +kernel
theorem dX2_bestDay_9 : decode cX2_bestDay 9 = .ok (.istore_n 3, 1) := by decide +kernel
theorem dX2_bestDay_10 : decode cX2_bestDay 10 = .ok (.iload_n 3, 1) := by decide +kernel
theorem dX2_bestDay_11 : decode cX2_bestDay 11 = .ok (.bipush 61, 2) := by decide +kernel
theorem dX2_bestDay_13 : decode cX2_bestDay 13 = .ok (.if_icmp .ge 27, 3) := by decide +kernel
theorem dX2_bestDay_16 : decode cX2_bestDay 16 = .ok (.aload_n 0, 1) := by decide +kernel
theorem dX2_bestDay_17 : decode cX2_bestDay 17 = .ok (.iload_n 3, 1) := by decide +kernel
theorem dX2_bestDay_18 : decode cX2_bestDay 18 = .ok (.invokevirtual 76, 3) := by decide +kernel
theorem dX2_bestDay_21 : decode cX2_bestDay 21 = .ok (.istore 4, 2) := by decide +kernel
theorem dX2_bestDay_23 : decode cX2_bestDay 23 = .ok (.iload 4, 2) := by decide +kernel
theorem dX2_bestDay_25 : decode cX2_bestDay 25 = .ok (.iload_n 2, 1) := by decide +kernel
theorem dX2_bestDay_26 : decode cX2_bestDay 26 = .ok (.if_icmp .ge 8, 3) := by decide +kernel
theorem dX2_bestDay_29 : decode cX2_bestDay 29 = .ok (.iload_n 3, 1) := by decide +kernel
theorem dX2_bestDay_30 : decode cX2_bestDay 30 = .ok (.istore_n 1, 1) := by decide +kernel
theorem dX2_bestDay_31 : decode cX2_bestDay 31 = .ok (.iload 4, 2) := by decide +kernel
theorem dX2_bestDay_33 : decode cX2_bestDay 33 = .ok (.istore_n 2, 1) := by decide +kernel
theorem dX2_bestDay_34 : decode cX2_bestDay 34 = .ok (.iinc 3 1, 3) := by decide +kernel
theorem dX2_bestDay_37 : decode cX2_bestDay 37 = .ok (.goto (-27), 3) := by decide +kernel
theorem dX2_bestDay_40 : decode cX2_bestDay 40 = .ok (.iload_n 1, 1) := by decide +kernel
theorem dX2_bestDay_41 : decode cX2_bestDay 41 = .ok (.ireturn, 1) := by decide +kernel
theorem dX2_countAlike_0 : decode cX2_countAlike 0 = .ok (.iconst 0, 1) := by decide +kernel
theorem dX2_countAlike_1 : decode cX2_countAlike 1 = .ok (.istore_n 3, 1) := by decide +kernel
theorem dX2_countAlike_2 : decode cX2_countAlike 2 = .ok (.iconst 0, 1) := by decide +kernel
theorem dX2_countAlike_3 : decode cX2_countAlike 3 = .ok (.istore 4, 2) := by decide +kernel
theorem dX2_countAlike_5 : decode cX2_countAlike 5 = .ok (.iload 4, 2) := by decide +kernel
theorem dX2_countAlike_7 : decode cX2_countAlike 7 = .ok (.bipush 7, 2) := by decide +kernel
theorem dX2_countAlike_9 : decode cX2_countAlike 9 = .ok (.if_icmp .ge 47, 3) := by decide +kernel
theorem dX2_countAlike_12 : decode cX2_countAlike 12 = .ok (.aload_n 0, 1) := by decide +kernel
theorem dX2_countAlike_13 : decode cX2_countAlike 13 = .ok (.iload 4, 2) := by decide +kernel
theorem dX2_countAlike_15 : decode cX2_countAlike 15 = .ok (.invokevirtual 72, 3) := by decide +kernel
theorem dX2_countAlike_18 : decode cX2_countAlike 18 = .ok (.ifCond .eq 32, 3) := by decide +kernel
theorem dX2_countAlike_21 : decode cX2_countAlike 21 = .ok (.aload_n 0, 1) := by decide +kernel
theorem dX2_countAlike_22 : decode cX2_countAlike 22 = .ok (.getfield 22, 3) := by decide +kernel
theorem dX2_countAlike_25 : decode cX2_countAlike 25 = .ok (.iload 4, 2) := by decide +kernel
theorem dX2_countAlike_27 : decode cX2_countAlike 27 = .ok (.bipush 61, 2) := by decide +kernel
theorem dX2_countAlike_29 : decode cX2_countAlike 29 = .ok (.imul, 1) := by decide +kernel
theorem dX2_countAlike_30 : decode cX2_countAlike 30 = .ok (.iload_n 2, 1) := by decide +kernel
theorem dX2_countAlike_31 : decode cX2_countAlike 31 = .ok (.iadd, 1) := by decide +kernel
theorem dX2_countAlike_32 : decode cX2_countAlike 32 = .ok (.iaload, 1) := by decide +kernel
theorem dX2_countAlike_33 : decode cX2_countAlike 33 = .ok (.aload_n 0, 1) := by decide +kernel
theorem dX2_countAlike_34 : decode cX2_countAlike 34 = .ok (.getfield 22, 3) := by decide +kernel
theorem dX2_countAlike_37 : decode cX2_countAlike 37 = .ok (.iload_n 1, 1) := by decide +kernel
theorem dX2_countAlike_38 : decode cX2_countAlike 38 = .ok (.bipush 61, 2) := by decide +kernel
theorem dX2_countAlike_40 : decode cX2_countAlike 40 = .ok (.imul, 1) := by decide +kernel
theorem dX2_countAlike_41 : decode cX2_countAlike 41 = .ok (.iload_n 2, 1) := by decide +kernel
theorem dX2_countAlike_42 : decode cX2_countAlike 42 = .ok (.iadd, 1) := by decide +kernel
theorem dX2_countAlike_43 : decode cX2_countAlike 43 = .ok (.iaload, 1) := by decide +kernel
theorem dX2_countAlike_44 : decode cX2_countAlike 44 = .ok (.if_icmp .ne 6, 3) := by decide +kernel
theorem dX2_countAlike_47 : decode cX2_countAlike 47 = .ok (.iinc 3 1, 3) := by decide +kernel
theorem dX2_countAlike_50 : decode cX2_countAlike 50 = .ok (.iinc 4 1, 3) := by decide +kernel
theorem dX2_countAlike_53 : decode cX2_countAlike 53 = .ok (.goto (-48), 3) := by decide +kernel
theorem dX2_countAlike_56 : decode cX2_countAlike 56 = .ok (.iload_n 3, 1) := by decide +kernel
theorem dX2_countAlike_57 : decode cX2_countAlike 57 = .ok (.ireturn, 1) := by decide +kernel
theorem dX2_isFitting_0 : decode cX2_isFitting 0 = .ok (.aload_n 0, 1) := by decide +kernel
theorem dX2_isFitting_1 : decode cX2_isFitting 1 = .ok (.getfield 32, 3) := by decide +kernel
theorem dX2_isFitting_4 : decode cX2_isFitting 4 = .ok (.iload_n 1, 1) := by decide +kernel
theorem dX2_isFitting_5 : decode cX2_isFitting 5 = .ok (.ishr, 1) := by decide +kernel
theorem dX2_isFitting_6 : decode cX2_isFitting 6 = .ok (.iconst 1, 1) := by decide +kernel
theorem dX2_isFitting_7 : decode cX2_isFitting 7 = .ok (.iand, 1) := by decide +kernel
theorem dX2_isFitting_8 : decode cX2_isFitting 8 = .ok (.iconst 1, 1) := by decide +kernel
theorem dX2_isFitting_9 : decode cX2_isFitting 9 = .ok (.if_icmp .ne 7, 3) := by decide +kernel
theorem dX2_isFitting_12 : decode cX2_isFitting 12 = .ok (.iconst 1, 1) := by decide +kernel
theorem dX2_isFitting_13 : decode cX2_isFitting 13 = .ok (.goto 4, 3) := by decide +kernel
theorem dX2_isFitting_16 : decode cX2_isFitting 16 = .ok (.iconst 0, 1) := by decide +kernel
theorem dX2_isFitting_17 : decode cX2_isFitting 17 = .ok (.ireturn, 1) := by decide +kernel
theorem dX2_mostAlike_0 : decode cX2_mostAlike 0 = .ok (.iconst 0, 1) := by decide +kernel
theorem dX2_mostAlike_1 : decode cX2_mostAlike 1 = .ok (.istore_n 2, 1) := by decide +kernel
theorem dX2_mostAlike_2 : decode cX2_mostAlike 2 = .ok (.iconst 0, 1) := by decide +kernel
theorem dX2_mostAlike_3 : decode cX2_mostAlike 3 = .ok (.istore_n 3, 1) := by decide +kernel
theorem dX2_mostAlike_4 : decode cX2_mostAlike 4 = .ok (.iload_n 3, 1) := by decide +kernel
theorem dX2_mostAlike_5 : decode cX2_mostAlike 5 = .ok (.bipush 7, 2) := by decide +kernel
theorem dX2_mostAlike_7 : decode cX2_mostAlike 7 = .ok (.if_icmp .ge 28, 3) := by decide +kernel
theorem dX2_mostAlike_10 : decode cX2_mostAlike 10 = .ok (.aload_n 0, 1) := by decide +kernel
theorem dX2_mostAlike_11 : decode cX2_mostAlike 11 = .ok (.iload_n 3, 1) := by decide +kernel
theorem dX2_mostAlike_12 : decode cX2_mostAlike 12 = .ok (.invokevirtual 72, 3) := by decide +kernel
theorem dX2_mostAlike_15 : decode cX2_mostAlike 15 = .ok (.ifCond .eq 14, 3) := by decide +kernel
theorem dX2_mostAlike_18 : decode cX2_mostAlike 18 = .ok (.iload_n 2, 1) := by decide +kernel
theorem dX2_mostAlike_19 : decode cX2_mostAlike 19 = .ok (.aload_n 0, 1) := by decide +kernel
theorem dX2_mostAlike_20 : decode cX2_mostAlike 20 = .ok (.iload_n 3, 1) := by decide +kernel
theorem dX2_mostAlike_21 : decode cX2_mostAlike 21 = .ok (.iload_n 1, 1) := by decide +kernel
theorem dX2_mostAlike_22 : decode cX2_mostAlike 22 = .ok (.invokevirtual 80, 3) := by decide +kernel
theorem dX2_mostAlike_25 : decode cX2_mostAlike 25 = .ok (.invokestatic 84, 3) := by decide +kernel
theorem dX2_mostAlike_28 : decode cX2_mostAlike 28 = .ok (.istore_n 2, 1) := by decide +kernel
theorem dX2_mostAlike_29 : decode cX2_mostAlike 29 = .ok (.iinc 3 1, 3) := by decide +kernel
theorem dX2_mostAlike_32 : decode cX2_mostAlike 32 = .ok (.goto (-28), 3) := by decide +kernel
theorem dX2_mostAlike_35 : decode cX2_mostAlike 35 = .ok (.iload_n 2, 1) := by decide +kernel
theorem dX2_mostAlike_36 : decode cX2_mostAlike 36 = .ok (.ireturn, 1) := by decide +kernel
theorem dX8_partUpwards_0 : decode cX8_partUpwards 0 = .ok (.iload_n 2, 1) := by decide +kernel
theorem dX8_partUpwards_1 : decode cX8_partUpwards 1 = .ok (.iconst 1, 1) := by decide +kernel
theorem dX8_partUpwards_2 : decode cX8_partUpwards 2 = .ok (.if_icmp .ge 7, 3) := by decide +kernel
theorem dX8_partUpwards_9 : decode cX8_partUpwards 9 = .ok (.iload_n 0, 1) := by decide +kernel
theorem dX8_partUpwards_10 : decode cX8_partUpwards 10 = .ok (.iload_n 1, 1) := by decide +kernel
theorem dX8_partUpwards_11 : decode cX8_partUpwards 11 = .ok (.imul, 1) := by decide +kernel
theorem dX8_partUpwards_12 : decode cX8_partUpwards 12 = .ok (.iload_n 2, 1) := by decide +kernel
theorem dX8_partUpwards_13 : decode cX8_partUpwards 13 = .ok (.iadd, 1) := by decide +kernel
theorem dX8_partUpwards_14 : decode cX8_partUpwards 14 = .ok (.iconst 1, 1) := by decide +kernel
theorem dX8_partUpwards_15 : decode cX8_partUpwards 15 = .ok (.isub, 1) := by decide +kernel
theorem dX8_partUpwards_16 : decode cX8_partUpwards 16 = .ok (.iload_n 2, 1) := by decide +kernel
theorem dX8_partUpwards_17 : decode cX8_partUpwards 17 = .ok (.idiv, 1) := by decide +kernel
theorem dX8_partUpwards_18 : decode cX8_partUpwards 18 = .ok (.ireturn, 1) := by decide +kernel
theorem iX2 : ∀ w ∈ u_ws RX2 TX2 5, w ∈ gT := i_of (by decide +kernel)
set_option maxHeartbeats 4000000 in
set_option maxRecDepth 100000 in
theorem t_X11_force (l : Launch) (dC : Nat → ClassId) (dI : Nat → Nat → Nat) (tys : List (ClassId × FieldType)) (κ : tK) (B : Nat) (ws : va_W) (hT : Ty κ tys B ws) (a0 : Nat) (k_a0 : κ a0 = some 11) (a1 : Int32) (sz : Nat) : Met l yX11_force (ws_u yX11_force cX11_force 3 (some .int)) ({ frames := 0, cells := 0, slots := 0, locals := 0 }) (va_Pc [.ref a0, .int a1] (cPre (dC, dI) tys ws sz)) (va_Qi (fun (r : Int32) (w : va_W) => Ty κ tys B w ∧ Sm [(10, 2)] [] κ ws w) (fun w t => cPost (dC, dI) tys w (va_A ws sz) t) (va_A ws sz)) 0 0 (va_A ws sz) := by
  refine Met.ofW (cc := cX11_force) (maxL := 3) (ret := (some .int)) (by decide) rfl ?_
  intro p e s m args below meth c s₁ B0 hml hv
  obtain ⟨rfl, hsz, hP, hK, hD0, hE⟩ := hv
  have hx := B0.exec
  have hb := B0.bytes
  have hr := B0.returns
  have hts0 := atoms_spec (ws := ws_u yX11_force cX11_force 3 (some .int)) B0.pre
  have hts : ∀ w ∈ gT, w.before _ s = true := fun w h => hts0 w (List.mem_cons_of_mem _ h)
  have hown : s.vm.findClass RX11 = some m.cls := findClass_of_methodNamed B0.named
  have hlocks := B0.notSynchronized
  subst hsz
  have hD := hD0.self (sz := s.heap.size)
  generalize hAe : va_A ws s.heap.size = A at hD ⊢
  have hA : ∀ q : Nat, s.heap.size ≤ q → A q := fun q h => by rw [← hAe]; exact Or.inr h
  have hw : tW (dC, dI) tys κ B A s ws s.heap [] := ⟨hK, hP, hD, va_S.rf, hT⟩
  have hM : Sm [(10, 2)] [] κ ws ws := Sm.rf
  clear hP hK hD hD0 hts0
  have l_a1 := i32_lo a1
  have h_a1 := i32_hi a1
  have hl := lv_entry ([.ref a0, .int a1]) (n := 3) (Nat.le_of_ble_eq_true rfl)
  rw [lg_entry_eq]
  generalize (lg_sl ([.ref a0, .int a1]) ++ List.replicate (3 - (lg_sl ([.ref a0, .int a1])).length) Slot.unset).toArray = ls at hl ⊢
  have hl : lv_has ls 3 [(0, .ref a0), (1, .int a1)] := hl
  refine t_start (fun QQ hQ => ?_)
  refine lv_iload_n hx hb dX11_force_0 rfl (lv_at hl 1 rfl) ?_
  refine lv_iconst (v := (-1)) hx hb dX11_force_1 (by decide) ?_
  refine lv_icmp_lt (tgt := 13) hx hb dX11_force_2 (by decide) (fun c_2 => ?_) (fun c_2 => ?_)
  · simp only [fa_lt, fa_le, fa_eq, li_m1] at c_2
    refine lv_bipush (v := (-2)) hx hb dX11_force_13 (by decide) ?_
    rw [hQ]
    refine W.widen (k := 0) (n := 0) (Nat.le_refl _) (Nat.le_refl _) ?_
    exact W.iret (v := (-2)) hx hb hr (fun t ht hW => ⟨⟨(-2), ws, rfl, ⟨hw.2.2.2.2, hM⟩, by rw [ht]; exact hw.2.1, va_K.moved hW.alike hw.1, hw.2.2.1⟩, hw.2.2.2.1.F ht⟩) hw.2.2.2.1.2.2 dX11_force_15
  · simp only [fa_lt, fa_le, fa_eq, li_m1] at c_2
    refine lv_iload_n hx hb dX11_force_5 rfl (lv_at hl 1 rfl) ?_
    refine lv_aload_n hx hb dX11_force_6 rfl (lv_at hl 0 rfl) ?_
    refine t_geti (ci := 11) (C := RX11) (T := TX11) (N := 12) hx hb hts iX11 hown hw k_a0 rfl rfl rfl 4 (by decide) (hts _ tw_427) (fun _ h9 => h9) dX11_force_7 rfl (fun v7 l_v7 h_v7 f_a0_X11_4 => ?_)
    have l_v7 : 0 ≤ v7.toInt := l_v7
    have h_v7 : v7.toInt ≤ 6 := h_v7
    refine lv_icmp_lt (tgt := 16) hx hb dX11_force_10 (by decide) (fun c_10 => ?_) (fun c_10 => ?_)
    · simp only [fa_lt, fa_le, fa_eq] at c_10
      refine lv_aload_n hx hb dX11_force_16 rfl (lv_at hl 0 rfl) ?_
      refine t_getr (k1 := 10) (ci := 11) (C := RX11) (T := TX11) (N := 12) hx hb hts iX11 hown hw k_a0 rfl rfl rfl 5 (by decide) (hts _ tw_428) (fun _ h9 => h9) dX11_force_17 rfl (fun v17 k_v17 f_a0_X11_5 => ?_)
      refine t_geti (ci := 10) (C := RX10) (T := TX10) (N := 8) hx hb hts iX10 hown hw k_v17 rfl rfl rfl 2 (by decide) (hts _ tw_287) (fun _ h9 => h9) dX11_force_20 rfl (fun v20 l_v20 h_v20 f_v17_X10_2 => ?_)
      have l_v20 : (-2147483648) ≤ v20.toInt := l_v20
      have h_v20 : v20.toInt ≤ 2147483647 := h_v20
      refine lv_istore_n (lv' := [(2, .int v20), (0, .ref a0), (1, .int a1)]) hx hb dX11_force_23 rfl hl (by decide) rfl (fun ls hl => ?_)
      refine lv_aload_n hx hb dX11_force_24 rfl (lv_at hl 1 rfl) ?_
      refine t_getk (ci := 11) (C := RX11) (T := TX11) (N := 12) hx hb hts iX11 hown hw rfl 5 (by decide) (hts _ tw_428) (fun _ h9 => h9) dX11_force_25 f_a0_X11_5 ?_
      refine lv_iload_n hx hb dX11_force_28 rfl (lv_at hl 2 rfl) ?_
      refine t_put (ci := 10) (C := RX10) (T := TX10) (N := 8) (v := .int a1) hx hb hts iX10 tyX10 tyX10_ok nmX10 hown hw k_v17 rfl rfl rfl 2 (by decide) (hts _ tw_287) (fun _ h9 => h9) rfl (tyX10_ok 2 (by decide)) rfl rfl (okV.int rfl (by omega) (by omega)) dX11_force_29 (fun w_1 H locs hw u => ?_)
      have hM := hM.up1 u (by decide)
      have f_a0_X11_4 := u.1 _ _ _ _ f_a0_X11_4 (Or.inr (Or.inl (by decide)))
      have f_a0_X11_5 := u.1 _ _ _ _ f_a0_X11_5 (Or.inr (Or.inl (by decide)))
      have f_v17_X10_2 := u.2.2
      refine lv_iload_n hx hb dX11_force_32 rfl (lv_at hl 0 rfl) ?_
      rw [hQ]
      refine W.widen (k := 0) (n := 0) (Nat.le_refl _) (Nat.le_refl _) ?_
      exact W.iret (v := v20) hx hb hr (fun t ht hW => ⟨⟨v20, w_1, rfl, ⟨hw.2.2.2.2, hM⟩, by rw [ht]; exact hw.2.1, va_K.moved hW.alike hw.1, hw.2.2.1⟩, hw.2.2.2.1.F ht⟩) hw.2.2.2.1.2.2 dX11_force_33
    · simp only [fa_lt, fa_le, fa_eq] at c_10
      refine lv_bipush (v := (-2)) hx hb dX11_force_13 (by decide) ?_
      rw [hQ]
      refine W.widen (k := 0) (n := 0) (Nat.le_refl _) (Nat.le_refl _) ?_
      exact W.iret (v := (-2)) hx hb hr (fun t ht hW => ⟨⟨(-2), ws, rfl, ⟨hw.2.2.2.2, hM⟩, by rw [ht]; exact hw.2.1, va_K.moved hW.alike hw.1, hw.2.2.1⟩, hw.2.2.2.1.F ht⟩) hw.2.2.2.1.2.2 dX11_force_15
set_option maxHeartbeats 4000000 in
set_option maxRecDepth 100000 in
theorem t_X11_give (l : Launch) (dC : Nat → ClassId) (dI : Nat → Nat → Nat) (tys : List (ClassId × FieldType)) (κ : tK) (B : Nat) (ws : va_W) (hT : Ty κ tys B ws) (a0 : Nat) (k_a0 : κ a0 = some 11) (a1 : Int32) (a2 : Int32) (sz : Nat) : Met l yX11_give (ws_u yX11_give cX11_give 4 (some .int)) ({ frames := 3, cells := 0, slots := 0, locals := 102 }) (va_Pc [.ref a0, .int a1, .int a2] (cPre (dC, dI) tys ws sz)) (va_Qi (fun (r : Int32) (w : va_W) => Ty κ tys B w ∧ Sm [(4, 1), (4, 2), (8, 0), (8, 1), (8, 2), (8, 3), (8, 4), (8, 5), (8, 6)] [43, 44, 45, 46, 47, 48] κ ws w) (fun w t => cPost (dC, dI) tys w (va_A ws sz) t) (va_A ws sz)) 0 0 (va_A ws sz) := by
  refine Met.ofW (cc := cX11_give) (maxL := 4) (ret := (some .int)) (by decide) rfl ?_
  intro p e s m args below meth c s₁ B0 hml hv
  obtain ⟨rfl, hsz, hP, hK, hD0, hE⟩ := hv
  have hx := B0.exec
  have hb := B0.bytes
  have hr := B0.returns
  have hts0 := atoms_spec (ws := ws_u yX11_give cX11_give 4 (some .int)) B0.pre
  have hts : ∀ w ∈ gT, w.before _ s = true := fun w h => hts0 w (List.mem_cons_of_mem _ h)
  have hown : s.vm.findClass RX11 = some m.cls := findClass_of_methodNamed B0.named
  have hlocks := B0.notSynchronized
  subst hsz
  have hD := hD0.self (sz := s.heap.size)
  generalize hAe : va_A ws s.heap.size = A at hD ⊢
  have hA : ∀ q : Nat, s.heap.size ≤ q → A q := fun q h => by rw [← hAe]; exact Or.inr h
  have hw : tW (dC, dI) tys κ B A s ws s.heap [] := ⟨hK, hP, hD, va_S.rf, hT⟩
  have hM : Sm [(4, 1), (4, 2), (8, 0), (8, 1), (8, 2), (8, 3), (8, 4), (8, 5), (8, 6)] [43, 44, 45, 46, 47, 48] κ ws ws := Sm.rf
  clear hP hK hD hD0 hts0
  have l_a1 := i32_lo a1
  have h_a1 := i32_hi a1
  have l_a2 := i32_lo a2
  have h_a2 := i32_hi a2
  have hl := lv_entry ([.ref a0, .int a1, .int a2]) (n := 4) (Nat.le_of_ble_eq_true rfl)
  rw [lg_entry_eq]
  generalize (lg_sl ([.ref a0, .int a1, .int a2]) ++ List.replicate (4 - (lg_sl ([.ref a0, .int a1, .int a2])).length) Slot.unset).toArray = ls at hl ⊢
  have hl : lv_has ls 4 [(0, .ref a0), (1, .int a1), (2, .int a2)] := hl
  refine t_start (fun QQ hQ => ?_)
  refine lv_aload_n hx hb dX11_give_0 rfl (lv_at hl 0 rfl) ?_
  refine t_getr (k1 := 10) (ci := 11) (C := RX11) (T := TX11) (N := 12) hx hb hts iX11 hown hw k_a0 rfl rfl rfl 5 (by decide) (hts _ tw_428) (fun _ h9 => h9) dX11_give_1 rfl (fun v1 k_v1 f_a0_X11_5 => ?_)
  refine t_getr (k1 := 8) (ci := 10) (C := RX10) (T := TX10) (N := 8) hx hb hts iX10 hown hw k_v1 rfl rfl rfl 1 (by decide) (hts _ tw_285) (fun _ h9 => h9) dX11_give_4 rfl (fun v4 k_v4 f_v1_X10_1 => ?_)
  refine lv_astore_n (lv' := [(3, .ref v4), (0, .ref a0), (1, .int a1), (2, .int a2)]) hx hb dX11_give_7 rfl hl (by decide) rfl (fun ls hl => ?_)
  refine lv_aload_n hx hb dX11_give_8 rfl (lv_at hl 1 rfl) ?_
  refine lv_iload_n hx hb dX11_give_9 rfl (lv_at hl 2 rfl) ?_
  refine t_calli (va_runV (As := [.int a1]) (rest := []) ⟨hx, hb, hml, hown, hts⟩ (t_X11_isCanon l dC dI tys κ B ws hw.2.2.2.2 a0 k_a0 a1 s.heap.size) (cwV 1 hts (gUV tw_722 tw_724 ts_1_0 tw_1 tw_725) rfl rfl rfl (by decide +kernel) ⟨(Nat.le_of_ble_eq_true rfl), (Nat.le_of_ble_eq_true rfl)⟩) ⟨cPre.blind, t_recv hw (ci := 11) k_a0 rfl rfl, cPre.use hw.2.1 hw.1 hw.2.2.1 hE⟩ rfl rfl hl.1 rfl (lv_room (Nat.le_of_ble_eq_true rfl)) dX11_give_10 ⟨(Nat.le_of_ble_eq_true rfl), (Nat.le_of_ble_eq_true rfl)⟩) hw hA (fun _ _ h => h.2.2.1) (fun v10 w_1 H locs hp hw => ?_)
  obtain ⟨l_v10, h_v10, _, hm, x_v10_0⟩ := hp
  have hM := hM.trans hm (by decide) (by decide)
  have f_a0_X11_5 := hm.1 _ _ _ _ f_a0_X11_5 (by decide)
  have f_v1_X10_1 := hm.1 _ _ _ _ f_v1_X10_1 (by decide)
  refine lv_if_eq (tgt := 43) hx hb dX11_give_13 (by decide) (fun c_13 => ?_) (fun c_13 => ?_)
  · simp only [fa_lt, fa_le, fa_eq, li_0] at c_13
    refine lv_iconst (v := (-1)) hx hb dX11_give_43 (by decide) ?_
    rw [hQ]
    refine W.widen (k := 0) (n := 0) (Nat.le_refl _) (Nat.le_refl _) ?_
    exact W.iret (v := (-1)) hx hb hr (fun t ht hW => ⟨⟨(-1), w_1, rfl, ⟨hw.2.2.2.2, hM⟩, by rw [ht]; exact hw.2.1, va_K.moved hW.alike hw.1, hw.2.2.1⟩, hw.2.2.2.1.F ht⟩) hw.2.2.2.1.2.2 dX11_give_44
  · simp only [fa_lt, fa_le, fa_eq, li_0] at c_13
    refine lv_aload_n hx hb dX11_give_16 rfl (lv_at hl 0 rfl) ?_
    refine t_geti (ci := 8) (C := RX8) (T := TX8) (N := 13) hx hb hts iX8 hown hw k_v4 rfl rfl rfl 6 (by decide) (hts _ tw_237) (fun _ h9 => h9) dX11_give_17 rfl (fun v17 l_v17 h_v17 f_v4_X8_6 => ?_)
    have l_v17 : (-2147483648) ≤ v17.toInt := l_v17
    have h_v17 : v17.toInt ≤ 2147483647 := h_v17
    refine lv_iload_n hx hb dX11_give_20 rfl (lv_at hl 2 rfl) ?_
    refine lv_ishr hx hb dX11_give_21 ?_
    refine lv_topi (fun v21 e_v21 => ?_)
    have l_v21 := i32_lo v21
    have h_v21 := i32_hi v21
    refine lv_iconst (v := 1) hx hb dX11_give_22 (by decide) ?_
    refine lv_iand hx hb dX11_give_23 ?_
    refine lv_topi (fun v23 e_v23 => ?_)
    have ⟨l_v23, h_v23⟩ : 0 ≤ v23.toInt ∧ v23.toInt ≤ 1 := and_r e_v23 li_1 (by decide)
    refine lv_if_eq (tgt := 43) hx hb dX11_give_24 (by decide) (fun c_24 => ?_) (fun c_24 => ?_)
    · simp only [fa_lt, fa_le, fa_eq, li_0] at c_24
      refine lv_iconst (v := (-1)) hx hb dX11_give_43 (by decide) ?_
      rw [hQ]
      refine W.widen (k := 0) (n := 0) (Nat.le_refl _) (Nat.le_refl _) ?_
      exact W.iret (v := (-1)) hx hb hr (fun t ht hW => ⟨⟨(-1), w_1, rfl, ⟨hw.2.2.2.2, hM⟩, by rw [ht]; exact hw.2.1, va_K.moved hW.alike hw.1, hw.2.2.1⟩, hw.2.2.2.1.F ht⟩) hw.2.2.2.1.2.2 dX11_give_44
    · simp only [fa_lt, fa_le, fa_eq, li_0] at c_24
      refine lv_aload_n hx hb dX11_give_27 rfl (lv_at hl 1 rfl) ?_
      refine lv_iload_n hx hb dX11_give_28 rfl (lv_at hl 3 rfl) ?_
      refine t_calli (va_runV (As := [.int a2]) (rest := []) ⟨hx, hb, hml, hown, hts⟩ (t_X11_isAlive l dC dI tys κ B w_1 hw.2.2.2.2 a0 k_a0 a2 H.size) (cwV 1 hts (gUV tw_870 tw_872 ts_1_14 tw_1 tw_873) rfl rfl rfl (by decide +kernel) ⟨(Nat.le_of_ble_eq_true rfl), (Nat.le_of_ble_eq_true rfl)⟩) ⟨cPre.blind, t_recv hw (ci := 11) k_a0 rfl rfl, cPre.use hw.2.1 hw.1 hw.2.2.1 hE⟩ rfl rfl hl.1 rfl (lv_room (Nat.le_of_ble_eq_true rfl)) dX11_give_29 ⟨(Nat.le_of_ble_eq_true rfl), (Nat.le_of_ble_eq_true rfl)⟩) hw hA (fun _ _ h => h.2.2.1) (fun v29 w_2 H locs hp hw => ?_)
      obtain ⟨l_v29, h_v29, _, hm, x_v29_0⟩ := hp
      have hM := hM.trans hm (by decide) (by decide)
      have f_a0_X11_5 := hm.1 _ _ _ _ f_a0_X11_5 (by decide)
      have f_v1_X10_1 := hm.1 _ _ _ _ f_v1_X10_1 (by decide)
      have f_v4_X8_6 := hm.1 _ _ _ _ f_v4_X8_6 (by decide)
      refine lv_if_eq (tgt := 43) hx hb dX11_give_32 (by decide) (fun c_32 => ?_) (fun c_32 => ?_)
      · simp only [fa_lt, fa_le, fa_eq, li_0] at c_32
        refine lv_iconst (v := (-1)) hx hb dX11_give_43 (by decide) ?_
        rw [hQ]
        refine W.widen (k := 0) (n := 0) (Nat.le_refl _) (Nat.le_refl _) ?_
        exact W.iret (v := (-1)) hx hb hr (fun t ht hW => ⟨⟨(-1), w_2, rfl, ⟨hw.2.2.2.2, hM⟩, by rw [ht]; exact hw.2.1, va_K.moved hW.alike hw.1, hw.2.2.1⟩, hw.2.2.2.1.F ht⟩) hw.2.2.2.1.2.2 dX11_give_44
      · simp only [fa_lt, fa_le, fa_eq, li_0] at c_32
        refine lv_aload_n hx hb dX11_give_35 rfl (lv_at hl 0 rfl) ?_
        refine t_geti (ci := 8) (C := RX8) (T := TX8) (N := 13) hx hb hts iX8 hown hw k_v4 rfl rfl rfl 1 (by decide) (hts _ tw_226) (fun _ h9 => h9) dX11_give_36 rfl (fun v36 l_v36 h_v36 f_v4_X8_1 => ?_)
        have l_v36 : (-1) ≤ v36.toInt := l_v36
        have h_v36 : v36.toInt ≤ 5 := h_v36
        refine lv_iconst (v := (-1)) hx hb dX11_give_39 (by decide) ?_
        refine lv_icmp_ne (tgt := 45) hx hb dX11_give_40 (by decide) (fun c_40 => ?_) (fun c_40 => ?_)
        · simp only [fa_lt, fa_le, fa_eq, li_m1] at c_40
          refine lv_aload_n hx hb dX11_give_45 rfl (lv_at hl 1 rfl) ?_
          refine t_getr (k1 := 4) (ci := 11) (C := RX11) (T := TX11) (N := 12) hx hb hts iX11 hown hw k_a0 rfl rfl rfl 7 (by decide) (hts _ tw_430) (fun _ h9 => h9) dX11_give_46 rfl (fun v46 k_v46 f_a0_X11_7 => ?_)
          refine lv_aload_n hx hb dX11_give_49 rfl (lv_at hl 0 rfl) ?_
          refine t_callv (va_runV (As := [.ref v4]) (rest := []) ⟨hx, hb, hml, hown, hts⟩ (t_X4_keep l dC dI tys κ B w_2 hw.2.2.2.2 v46 k_v46 v4 k_v4 v36 (by omega) (by omega) f_v4_X8_1 H.size) (cwV 1 hts (gUV tw_747 tw_748 tw_749 tw_9 tw_750) rfl rfl rfl (by decide +kernel) ⟨(Nat.le_of_ble_eq_true rfl), (Nat.le_of_ble_eq_true rfl)⟩) ⟨cPre.blind, t_recv hw (ci := 4) k_v46 rfl rfl, cPre.use hw.2.1 hw.1 hw.2.2.1 hE⟩ rfl rfl hl.1 rfl (lv_room (Nat.le_of_ble_eq_true rfl)) dX11_give_50 ⟨(Nat.le_of_ble_eq_true rfl), (Nat.le_of_ble_eq_true rfl)⟩) hw hA (fun _ h => h.1) (fun w_3 H locs hp hw => ?_)
          obtain ⟨_, hm, f_v4_X8_1⟩ := hp
          have hM := hM.trans hm (by decide) (by decide)
          have f_a0_X11_5 := hm.1 _ _ _ _ f_a0_X11_5 (by decide)
          have f_v1_X10_1 := hm.1 _ _ _ _ f_v1_X10_1 (by decide)
          have f_a0_X11_7 := hm.1 _ _ _ _ f_a0_X11_7 (by decide)
          refine lv_aload_n hx hb dX11_give_53 rfl (lv_at hl 0 rfl) ?_
          refine lv_dup hx hb dX11_give_54 rfl ?_
          refine t_geti (ci := 8) (C := RX8) (T := TX8) (N := 13) hx hb hts iX8 hown hw k_v4 rfl rfl rfl 6 (by decide) (hts _ tw_237) (fun _ h9 => h9) dX11_give_55 rfl (fun v55 l_v55 h_v55 f_v4_X8_6 => ?_)
          have l_v55 : (-2147483648) ≤ v55.toInt := l_v55
          have h_v55 : v55.toInt ≤ 2147483647 := h_v55
          refine lv_iconst (v := 1) hx hb dX11_give_58 (by decide) ?_
          refine lv_iload_n hx hb dX11_give_59 rfl (lv_at hl 2 rfl) ?_
          refine lv_ishl hx hb dX11_give_60 ?_
          refine lv_topi (fun v60 e_v60 => ?_)
          have ⟨l_v60, h_v60⟩ := sh_i e_v60 (by omega) (by omega)
          refine lv_iconst (v := (-1)) hx hb dX11_give_61 (by decide) ?_
          refine lv_ixor hx hb dX11_give_62 ?_
          refine lv_topi (fun v62 e_v62 => ?_)
          have l_v62 := i32_lo v62
          have h_v62 := i32_hi v62
          refine lv_iand hx hb dX11_give_63 ?_
          refine lv_topi (fun v63 e_v63 => ?_)
          have l_v63 := i32_lo v63
          have h_v63 := i32_hi v63
          refine t_put (ci := 8) (C := RX8) (T := TX8) (N := 13) (v := .int v63) hx hb hts iX8 tyX8 tyX8_ok nmX8 hown hw k_v4 rfl rfl rfl 6 (by decide) (hts _ tw_237) (fun _ h9 => h9) rfl (tyX8_ok 6 (by decide)) rfl rfl (okV.int rfl (by omega) (by omega)) dX11_give_64 (fun w_4 H locs hw u => ?_)
          have hM := hM.up1 u (by decide)
          have f_a0_X11_5 := u.1 _ _ _ _ f_a0_X11_5 (Or.inr (Or.inl (by decide)))
          have f_v1_X10_1 := u.1 _ _ _ _ f_v1_X10_1 (Or.inr (Or.inl (by decide)))
          have f_a0_X11_7 := u.1 _ _ _ _ f_a0_X11_7 (Or.inr (Or.inl (by decide)))
          have f_v4_X8_1 := u.1 _ _ _ _ f_v4_X8_1 (Or.inr (Or.inr (by decide)))
          have f_v4_X8_6 := u.2.2
          refine lv_aload_n hx hb dX11_give_67 rfl (lv_at hl 0 rfl) ?_
          refine t_getr (k1 := 47) (ci := 8) (C := RX8) (T := TX8) (N := 13) hx hb hts iX8 hown hw k_v4 rfl rfl rfl 11 (by decide) (hts _ tw_251) (fun _ h9 => h9) dX11_give_68 rfl (fun v68 k_v68 f_v4_X8_11 => ?_)
          refine lv_iload_n hx hb dX11_give_71 rfl (lv_at hl 3 rfl) ?_
          refine lv_iload_n hx hb dX11_give_72 rfl (lv_at hl 2 rfl) ?_
          refine t_iast hx hb hw k_v68 rfl rfl (by omega) (show a2.toInt < 4 by omega) (i32_lo _) (i32_hi _) dX11_give_73 (fun w_5 H locs hw u => ?_)
          have hM := hM.up3 u k_v68 (by decide)
          have f_a0_X11_5 := u.1 _ _ _ _ f_a0_X11_5
          have f_v1_X10_1 := u.1 _ _ _ _ f_v1_X10_1
          have f_a0_X11_7 := u.1 _ _ _ _ f_a0_X11_7
          have f_v4_X8_1 := u.1 _ _ _ _ f_v4_X8_1
          have f_v4_X8_6 := u.1 _ _ _ _ f_v4_X8_6
          have f_v4_X8_11 := u.1 _ _ _ _ f_v4_X8_11
          refine lv_aload_n hx hb dX11_give_74 rfl (lv_at hl 1 rfl) ?_
          refine t_getk (ci := 11) (C := RX11) (T := TX11) (N := 12) hx hb hts iX11 hown hw rfl 5 (by decide) (hts _ tw_428) (fun _ h9 => h9) dX11_give_75 f_a0_X11_5 ?_
          refine t_getr (k1 := 0) (ci := 10) (C := RX10) (T := TX10) (N := 8) hx hb hts iX10 hown hw k_v1 rfl rfl rfl 0 (by decide) (hts _ tw_282) (fun _ h9 => h9) dX11_give_78 rfl (fun v78 k_v78 f_v1_X10_0 => ?_)
          refine t_getr (k1 := 25) (ci := 0) (C := RX0) (T := TX0) (N := 16) hx hb hts iX0 hown hw k_v78 rfl rfl rfl 11 (by decide) (hts _ tw_110) (fun _ h9 => h9) dX11_give_81 rfl (fun v81 k_v81 f_v78_X0_11 => ?_)
          refine lv_iload_n hx hb dX11_give_84 rfl (lv_at hl 2 rfl) ?_
          refine t_iald hx hb hw k_v81 rfl rfl (by omega) (show a1.toInt < 4 by omega) dX11_give_85 (fun v85 r_v85 s_v85 q_v85 => ?_)
          have l_v85 := i32_lo v85
          have h_v85 := i32_hi v85
          rw [hQ]
          refine W.widen (k := 0) (n := 0) (Nat.le_refl _) (Nat.le_refl _) ?_
          exact W.iret (v := v85) hx hb hr (fun t ht hW => ⟨⟨v85, w_5, rfl, ⟨hw.2.2.2.2, hM⟩, by rw [ht]; exact hw.2.1, va_K.moved hW.alike hw.1, hw.2.2.1⟩, hw.2.2.2.1.F ht⟩) hw.2.2.2.1.2.2 dX11_give_86
        · simp only [fa_lt, fa_le, fa_eq, li_m1] at c_40
          refine lv_iconst (v := (-1)) hx hb dX11_give_43 (by decide) ?_
          rw [hQ]
          refine W.widen (k := 0) (n := 0) (Nat.le_refl _) (Nat.le_refl _) ?_
          exact W.iret (v := (-1)) hx hb hr (fun t ht hW => ⟨⟨(-1), w_2, rfl, ⟨hw.2.2.2.2, hM⟩, by rw [ht]; exact hw.2.1, va_K.moved hW.alike hw.1, hw.2.2.1⟩, hw.2.2.2.1.F ht⟩) hw.2.2.2.1.2.2 dX11_give_44
set_option maxHeartbeats 4000000 in
set_option maxRecDepth 100000 in
theorem t_X11_image (l : Launch) (dC : Nat → ClassId) (dI : Nat → Nat → Nat) (tys : List (ClassId × FieldType)) (κ : tK) (B : Nat) (ws : va_W) (hT : Ty κ tys B ws) (a0 : Nat) (k_a0 : κ a0 = some 11) (a1 : Int32) (sz : Nat) : Met l yX11_image (ws_u yX11_image cX11_image 2 (some .int)) ({ frames := 3, cells := 0, slots := 0, locals := 102 }) (va_Pc [.ref a0, .int a1] (cPre (dC, dI) tys ws sz)) (va_Qi (fun (r : Int32) (w : va_W) => Ty κ tys B w ∧ Sm [(8, 0), (8, 1), (8, 2), (8, 3), (8, 4), (8, 5), (8, 6), (10, 0), (10, 2), (10, 3), (10, 4), (10, 7)] [43, 44, 45, 46, 47, 48, 50, 51] κ ws w) (fun w t => cPost (dC, dI) tys w (va_A ws sz) t) (va_A ws sz)) 0 0 (va_A ws sz) := by
  refine Met.ofW (cc := cX11_image) (maxL := 2) (ret := (some .int)) (by decide) rfl ?_
  intro p e s m args below meth c s₁ B0 hml hv
  obtain ⟨rfl, hsz, hP, hK, hD0, hE⟩ := hv
  have hx := B0.exec
  have hb := B0.bytes
  have hr := B0.returns
  have hts0 := atoms_spec (ws := ws_u yX11_image cX11_image 2 (some .int)) B0.pre
  have hts : ∀ w ∈ gT, w.before _ s = true := fun w h => hts0 w (List.mem_cons_of_mem _ h)
  have hown : s.vm.findClass RX11 = some m.cls := findClass_of_methodNamed B0.named
  have hlocks := B0.notSynchronized
  subst hsz
  have hD := hD0.self (sz := s.heap.size)
  generalize hAe : va_A ws s.heap.size = A at hD ⊢
  have hA : ∀ q : Nat, s.heap.size ≤ q → A q := fun q h => by rw [← hAe]; exact Or.inr h
  have hw : tW (dC, dI) tys κ B A s ws s.heap [] := ⟨hK, hP, hD, va_S.rf, hT⟩
  have hM : Sm [(8, 0), (8, 1), (8, 2), (8, 3), (8, 4), (8, 5), (8, 6), (10, 0), (10, 2), (10, 3), (10, 4), (10, 7)] [43, 44, 45, 46, 47, 48, 50, 51] κ ws ws := Sm.rf
  clear hP hK hD hD0 hts0
  have l_a1 := i32_lo a1
  have h_a1 := i32_hi a1
  have hl := lv_entry ([.ref a0, .int a1]) (n := 2) (Nat.le_of_ble_eq_true rfl)
  rw [lg_entry_eq]
  generalize (lg_sl ([.ref a0, .int a1]) ++ List.replicate (2 - (lg_sl ([.ref a0, .int a1])).length) Slot.unset).toArray = ls at hl ⊢
  have hl : lv_has ls 2 [(0, .ref a0), (1, .int a1)] := hl
  refine t_start (fun QQ hQ => ?_)
  refine lv_iload_n hx hb dX11_image_0 rfl (lv_at hl 1 rfl) ?_
  refine lv_if_lt (tgt := 9) hx hb dX11_image_1 (by decide) (fun c_1 => ?_) (fun c_1 => ?_)
  · simp only [fa_lt, fa_le, fa_eq, li_0] at c_1
    refine lv_iconst (v := (-1)) hx hb dX11_image_9 (by decide) ?_
    rw [hQ]
    refine W.widen (k := 0) (n := 0) (Nat.le_refl _) (Nat.le_refl _) ?_
    exact W.iret (v := (-1)) hx hb hr (fun t ht hW => ⟨⟨(-1), ws, rfl, ⟨hw.2.2.2.2, hM⟩, by rw [ht]; exact hw.2.1, va_K.moved hW.alike hw.1, hw.2.2.1⟩, hw.2.2.2.1.F ht⟩) hw.2.2.2.1.2.2 dX11_image_10
  · simp only [fa_lt, fa_le, fa_eq, li_0] at c_1
    refine lv_iload_n hx hb dX11_image_4 rfl (lv_at hl 1 rfl) ?_
    refine lv_iconst (v := 4) hx hb dX11_image_5 (by decide) ?_
    refine lv_icmp_lt (tgt := 11) hx hb dX11_image_6 (by decide) (fun c_6 => ?_) (fun c_6 => ?_)
    · simp only [fa_lt, fa_le, fa_eq, li_4] at c_6
      refine lv_aload_n hx hb dX11_image_11 rfl (lv_at hl 0 rfl) ?_
      refine t_getr (k1 := 53) (ci := 11) (C := RX11) (T := TX11) (N := 12) hx hb hts iX11 hown hw k_a0 rfl rfl rfl 6 (by decide) (hts _ tw_429) (fun _ h9 => h9) dX11_image_12 rfl (fun v12 k_v12 f_a0_X11_6 => ?_)
      refine lv_iload_n hx hb dX11_image_15 rfl (lv_at hl 1 rfl) ?_
      refine t_aald (C := RX10) hx hb hw k_v12 rfl rfl (by omega) (show a1.toInt < 4 by omega) dX11_image_16 (fun v16 k_v16 => ?_)
      have k_v16 : κ v16 = some 10 := k_v16
      refine lv_aload_n hx hb dX11_image_17 rfl (lv_at hl 0 rfl) ?_
      refine t_getr (k1 := 10) (ci := 11) (C := RX11) (T := TX11) (N := 12) hx hb hts iX11 hown hw k_a0 rfl rfl rfl 5 (by decide) (hts _ tw_428) (fun _ h9 => h9) dX11_image_18 rfl (fun v18 k_v18 f_a0_X11_5 => ?_)
      refine t_callv (va_runV (As := [.ref v18]) (rest := []) ⟨hx, hb, hml, hown, hts⟩ (t_X10_copyFrom l dC dI tys κ B ws hw.2.2.2.2 v16 k_v16 v18 k_v18 s.heap.size) (cwV 1 hts (gUV tw_1109 tw_1110 tw_1111 tw_7 tw_1112) rfl rfl rfl (by decide +kernel) ⟨(Nat.le_of_ble_eq_true rfl), (Nat.le_of_ble_eq_true rfl)⟩) ⟨cPre.blind, t_recv hw (ci := 10) k_v16 rfl rfl, cPre.use hw.2.1 hw.1 hw.2.2.1 hE⟩ rfl rfl hl.1 rfl (lv_room (Nat.le_of_ble_eq_true rfl)) dX11_image_21 ⟨(Nat.le_of_ble_eq_true rfl), (Nat.le_of_ble_eq_true rfl)⟩) hw hA (fun _ h => h.1) (fun w_1 H locs hp hw => ?_)
      obtain ⟨_, hm⟩ := hp
      have hM := hM.trans hm (by decide) (by decide)
      have f_a0_X11_6 := hm.1 _ _ _ _ f_a0_X11_6 (by decide)
      have f_a0_X11_5 := hm.1 _ _ _ _ f_a0_X11_5 (by decide)
      refine lv_aload_n hx hb dX11_image_24 rfl (lv_at hl 0 rfl) ?_
      refine t_getk (ci := 11) (C := RX11) (T := TX11) (N := 12) hx hb hts iX11 hown hw rfl 6 (by decide) (hts _ tw_429) (fun _ h9 => h9) dX11_image_25 f_a0_X11_6 ?_
      refine lv_iload_n hx hb dX11_image_28 rfl (lv_at hl 1 rfl) ?_
      refine t_aald (C := RX10) hx hb hw k_v12 rfl rfl (by omega) (show a1.toInt < 4 by omega) dX11_image_29 (fun v29 k_v29 => ?_)
      have k_v29 : κ v29 = some 10 := k_v29
      refine lv_iconst (v := 1) hx hb dX11_image_30 (by decide) ?_
      refine t_put (ci := 10) (C := RX10) (T := TX10) (N := 8) (v := .int 1) hx hb hts iX10 tyX10 tyX10_ok nmX10 hown hw k_v29 rfl rfl rfl 7 (by decide) (hts _ tw_299) (fun _ h9 => h9) rfl (tyX10_ok 7 (by decide)) rfl rfl (okV.int rfl (by decide) (by decide)) dX11_image_31 (fun w_2 H locs hw u => ?_)
      have hM := hM.up1 u (by decide)
      have f_a0_X11_6 := u.1 _ _ _ _ f_a0_X11_6 (Or.inr (Or.inl (by decide)))
      have f_a0_X11_5 := u.1 _ _ _ _ f_a0_X11_5 (Or.inr (Or.inl (by decide)))
      have f_v29_X10_7 := u.2.2
      refine lv_aload_n hx hb dX11_image_34 rfl (lv_at hl 0 rfl) ?_
      refine t_getk (ci := 11) (C := RX11) (T := TX11) (N := 12) hx hb hts iX11 hown hw rfl 5 (by decide) (hts _ tw_428) (fun _ h9 => h9) dX11_image_35 f_a0_X11_5 ?_
      refine t_getr (k1 := 8) (ci := 10) (C := RX10) (T := TX10) (N := 8) hx hb hts iX10 hown hw k_v18 rfl rfl rfl 1 (by decide) (hts _ tw_285) (fun _ h9 => h9) dX11_image_38 rfl (fun v38 k_v38 f_v18_X10_1 => ?_)
      refine t_geti (ci := 8) (C := RX8) (T := TX8) (N := 13) hx hb hts iX8 hown hw k_v38 rfl rfl rfl 0 (by decide) (hts _ tw_222) (fun _ h9 => h9) dX11_image_41 rfl (fun v41 l_v41 h_v41 f_v38_X8_0 => ?_)
      have l_v41 : (-2147483648) ≤ v41.toInt := l_v41
      have h_v41 : v41.toInt ≤ 2147483647 := h_v41
      rw [hQ]
      refine W.widen (k := 0) (n := 0) (Nat.le_refl _) (Nat.le_refl _) ?_
      exact W.iret (v := v41) hx hb hr (fun t ht hW => ⟨⟨v41, w_2, rfl, ⟨hw.2.2.2.2, hM⟩, by rw [ht]; exact hw.2.1, va_K.moved hW.alike hw.1, hw.2.2.1⟩, hw.2.2.2.1.F ht⟩) hw.2.2.2.1.2.2 dX11_image_44
    · simp only [fa_lt, fa_le, fa_eq, li_4] at c_6
      refine lv_iconst (v := (-1)) hx hb dX11_image_9 (by decide) ?_
      rw [hQ]
      refine W.widen (k := 0) (n := 0) (Nat.le_refl _) (Nat.le_refl _) ?_
      exact W.iret (v := (-1)) hx hb hr (fun t ht hW => ⟨⟨(-1), ws, rfl, ⟨hw.2.2.2.2, hM⟩, by rw [ht]; exact hw.2.1, va_K.moved hW.alike hw.1, hw.2.2.1⟩, hw.2.2.2.1.F ht⟩) hw.2.2.2.1.2.2 dX11_image_10
set_option maxHeartbeats 4000000 in
set_option maxRecDepth 100000 in
theorem t_X11_least (l : Launch) (dC : Nat → ClassId) (dI : Nat → Nat → Nat) (tys : List (ClassId × FieldType)) (κ : tK) (B : Nat) (ws : va_W) (hT : Ty κ tys B ws) (a0 : Nat) (k_a0 : κ a0 = some 11) (a1 : Int32) (sz : Nat) : Met l yX11_least (ws_u yX11_least cX11_least 3 (some .int)) ({ frames := 4, cells := 0, slots := 0, locals := 98 }) (va_Pc [.ref a0, .int a1] (cPre (dC, dI) tys ws sz)) (va_Qi (fun (r : Int32) (w : va_W) => (-2) ≤ r.toInt ∧ r.toInt ≤ 20 ∧ Ty κ tys B w ∧ Sm [(5, 0), (5, 1), (5, 5), (8, 0), (8, 1), (8, 2), (8, 3), (8, 4), (8, 5), (8, 6)] [33, 34, 35, 36, 42, 43, 44, 45, 46, 47, 48] κ ws w) (fun w t => cPost (dC, dI) tys w (va_A ws sz) t) (va_A ws sz)) 0 0 (va_A ws sz) := by
  refine Met.ofW (cc := cX11_least) (maxL := 3) (ret := (some .int)) (by decide) rfl ?_
  intro p e s m args below meth c s₁ B0 hml hv
  obtain ⟨rfl, hsz, hP, hK, hD0, hE⟩ := hv
  have hx := B0.exec
  have hb := B0.bytes
  have hr := B0.returns
  have hts0 := atoms_spec (ws := ws_u yX11_least cX11_least 3 (some .int)) B0.pre
  have hts : ∀ w ∈ gT, w.before _ s = true := fun w h => hts0 w (List.mem_cons_of_mem _ h)
  have hown : s.vm.findClass RX11 = some m.cls := findClass_of_methodNamed B0.named
  have hlocks := B0.notSynchronized
  subst hsz
  have hD := hD0.self (sz := s.heap.size)
  generalize hAe : va_A ws s.heap.size = A at hD ⊢
  have hA : ∀ q : Nat, s.heap.size ≤ q → A q := fun q h => by rw [← hAe]; exact Or.inr h
  have hw : tW (dC, dI) tys κ B A s ws s.heap [] := ⟨hK, hP, hD, va_S.rf, hT⟩
  have hM : Sm [(5, 0), (5, 1), (5, 5), (8, 0), (8, 1), (8, 2), (8, 3), (8, 4), (8, 5), (8, 6)] [33, 34, 35, 36, 42, 43, 44, 45, 46, 47, 48] κ ws ws := Sm.rf
  clear hP hK hD hD0 hts0
  have l_a1 := i32_lo a1
  have h_a1 := i32_hi a1
  have hl := lv_entry ([.ref a0, .int a1]) (n := 3) (Nat.le_of_ble_eq_true rfl)
  rw [lg_entry_eq]
  generalize (lg_sl ([.ref a0, .int a1]) ++ List.replicate (3 - (lg_sl ([.ref a0, .int a1])).length) Slot.unset).toArray = ls at hl ⊢
  have hl : lv_has ls 3 [(0, .ref a0), (1, .int a1)] := hl
  refine t_start (fun QQ hQ => ?_)
  refine lv_aload_n hx hb dX11_least_0 rfl (lv_at hl 0 rfl) ?_
  refine lv_iload_n hx hb dX11_least_1 rfl (lv_at hl 1 rfl) ?_
  refine t_calli (va_runV (As := [.int a1]) (rest := []) ⟨hx, hb, hml, hown, hts⟩ (t_X11_isSinging l dC dI tys κ B ws hw.2.2.2.2 a0 k_a0 a1 s.heap.size) (cwV 1 hts (gUV tw_878 tw_880 ts_1_15 tw_1 tw_881) rfl rfl rfl (by decide +kernel) ⟨(Nat.le_of_ble_eq_true rfl), (Nat.le_of_ble_eq_true rfl)⟩) ⟨cPre.blind, t_recv hw (ci := 11) k_a0 rfl rfl, cPre.use hw.2.1 hw.1 hw.2.2.1 hE⟩ rfl rfl hl.1 rfl (lv_room (Nat.le_of_ble_eq_true rfl)) dX11_least_2 ⟨(Nat.le_of_ble_eq_true rfl), (Nat.le_of_ble_eq_true rfl)⟩) hw hA (fun _ _ h => h.2.2.1) (fun v2 w_1 H locs hp hw => ?_)
  obtain ⟨l_v2, h_v2, _, hm, x_v2_0⟩ := hp
  have hM := hM.trans hm (by decide) (by decide)
  refine lv_if_ne (tgt := 10) hx hb dX11_least_5 (by decide) (fun c_5 => ?_) (fun c_5 => ?_)
  · simp only [fa_lt, fa_le, fa_eq, li_0] at c_5
    refine lv_aload_n hx hb dX11_least_10 rfl (lv_at hl 0 rfl) ?_
    refine t_getr (k1 := 8) (ci := 11) (C := RX11) (T := TX11) (N := 12) hx hb hts iX11 hown hw k_a0 rfl rfl rfl 11 (by decide) (hts _ tw_434) (fun _ h9 => h9) dX11_least_11 rfl (fun v11 k_v11 f_a0_X11_11 => ?_)
    refine lv_aload_n hx hb dX11_least_14 rfl (lv_at hl 0 rfl) ?_
    refine t_getr (k1 := 10) (ci := 11) (C := RX11) (T := TX11) (N := 12) hx hb hts iX11 hown hw k_a0 rfl rfl rfl 5 (by decide) (hts _ tw_428) (fun _ h9 => h9) dX11_least_15 rfl (fun v15 k_v15 f_a0_X11_5 => ?_)
    refine t_getr (k1 := 8) (ci := 10) (C := RX10) (T := TX10) (N := 8) hx hb hts iX10 hown hw k_v15 rfl rfl rfl 1 (by decide) (hts _ tw_285) (fun _ h9 => h9) dX11_least_18 rfl (fun v18 k_v18 f_v15_X10_1 => ?_)
    obtain ⟨u_v21q0, q_v21q0, f_v18_X8_1⟩ := t_peek (k := 1) hw.2.2.2.2 k_v18 rfl (by decide)
    obtain ⟨v21q0, rfl, l_v21q0, h_v21q0⟩ := q_v21q0.geti (lo := (-1)) (hi := 5) rfl
    refine t_callv (va_runV (As := [.ref v18]) (rest := []) ⟨hx, hb, hml, hown, hts⟩ (t_X8_copyFrom l dC dI tys κ B w_1 hw.2.2.2.2 v11 k_v11 v18 k_v18 v21q0 (by omega) (by omega) f_v18_X8_1 H.size) (cwV 1 hts (gUV tw_898 tw_752 tw_753 tw_8 tw_754) rfl rfl rfl (by decide +kernel) ⟨(Nat.le_of_ble_eq_true rfl), (Nat.le_of_ble_eq_true rfl)⟩) ⟨cPre.blind, t_recv hw (ci := 8) k_v11 rfl rfl, cPre.use hw.2.1 hw.1 hw.2.2.1 hE⟩ rfl rfl hl.1 rfl (lv_room (Nat.le_of_ble_eq_true rfl)) dX11_least_21 ⟨(Nat.le_of_ble_eq_true rfl), (Nat.le_of_ble_eq_true rfl)⟩) hw hA (fun _ h => h.1) (fun w_2 H locs hp hw => ?_)
    obtain ⟨_, hm, f_v18_X8_1⟩ := hp
    have hM := hM.trans hm (by decide) (by decide)
    have f_a0_X11_11 := hm.1 _ _ _ _ f_a0_X11_11 (by decide)
    have f_a0_X11_5 := hm.1 _ _ _ _ f_a0_X11_5 (by decide)
    have f_v15_X10_1 := hm.1 _ _ _ _ f_v15_X10_1 (by decide)
    refine lv_iconst (v := 0) hx hb dX11_least_24 (by decide) ?_
    refine lv_istore_n (lv' := [(2, .int 0), (0, .ref a0), (1, .int a1)]) hx hb dX11_least_25 rfl hl (by decide) rfl (fun ls hl => ?_)
    have J26 : ∀ (n : Nat) (H : Heap) (locs : List Loc) (ls : Array Slot), (∃ (w26 : va_W) (p26_l2 : Int32), tW (dC, dI) tys κ B A s w26 H locs ∧ Sm [(5, 0), (5, 1), (5, 5), (8, 0), (8, 1), (8, 2), (8, 3), (8, 4), (8, 5), (8, 6)] [33, 34, 35, 36, 42, 43, 44, 45, 46, 47, 48] κ ws w26 ∧ 0 ≤ p26_l2.toInt ∧ p26_l2.toInt ≤ 21 ∧ fld w26 a0 11 11 (.ref v11) ∧ fld w26 a0 11 5 (.ref v15) ∧ fld w26 v15 10 1 (.ref v18) ∧ fld w26 v18 8 1 (.int v21q0) ∧ lv_has ls 3 [(0, .ref a0), (1, .int a1), (2, .int p26_l2)] ∧ (21 - p26_l2.toInt).toNat = n) → W p l e (headSpec (ws_u yX11_least cX11_least 3 (some .int)) ({ frames := 4, cells := 0, slots := 0, locals := 98 })).room s m ([.ref a0, .int a1] : List Value).toArray below meth c H locs 0 0 QQ (F0 m 26 ls []) := by
      refine loopT _ ?_
      intro n_26 H locs ls hI ih_26
      obtain ⟨w26, p26_l2, hw, hM, l_p26_l2, h_p26_l2, f_a0_X11_11, f_a0_X11_5, f_v15_X10_1, f_v18_X8_1, hl, hn_26⟩ := hI
      refine lv_iload_n hx hb dX11_least_26 rfl (lv_at hl 2 rfl) ?_
      refine lv_bipush (v := 20) hx hb dX11_least_27 (by decide) ?_
      refine lv_icmp_gt (tgt := 83) hx hb dX11_least_29 (by decide) (fun c_29 => ?_) (fun c_29 => ?_)
      · simp only [fa_lt, fa_le, fa_eq, li_20] at c_29
        refine lv_bipush (v := (-2)) hx hb dX11_least_83 (by decide) ?_
        rw [hQ]
        refine W.widen (k := 0) (n := 0) (Nat.le_refl _) (Nat.le_refl _) ?_
        exact W.iret (v := (-2)) hx hb hr (fun t ht hW => ⟨⟨(-2), w26, rfl, ⟨(by decide), (by decide), hw.2.2.2.2, hM⟩, by rw [ht]; exact hw.2.1, va_K.moved hW.alike hw.1, hw.2.2.1⟩, hw.2.2.2.1.F ht⟩) hw.2.2.2.1.2.2 dX11_least_85
      · simp only [fa_lt, fa_le, fa_eq, li_20] at c_29
        refine lv_aload_n hx hb dX11_least_32 rfl (lv_at hl 0 rfl) ?_
        refine t_getk (ci := 11) (C := RX11) (T := TX11) (N := 12) hx hb hts iX11 hown hw rfl 11 (by decide) (hts _ tw_434) (fun _ h9 => h9) dX11_least_33 f_a0_X11_11 ?_
        refine t_getr (k1 := 44) (ci := 8) (C := RX8) (T := TX8) (N := 13) hx hb hts iX8 hown hw k_v11 rfl rfl rfl 8 (by decide) (hts _ tw_244) (fun _ h9 => h9) dX11_least_36 rfl (fun v36 k_v36 f_v11_X8_8 => ?_)
        refine lv_iload_n hx hb dX11_least_39 rfl (lv_at hl 1 rfl) ?_
        refine lv_iload_n hx hb dX11_least_40 rfl (lv_at hl 2 rfl) ?_
        refine t_iast hx hb hw k_v36 rfl rfl (by omega) (show a1.toInt < 6 by omega) (i32_lo _) (i32_hi _) dX11_least_41 (fun w_3 H locs hw u => ?_)
        have hM := hM.up3 u k_v36 (by decide)
        have f_a0_X11_11 := u.1 _ _ _ _ f_a0_X11_11
        have f_a0_X11_5 := u.1 _ _ _ _ f_a0_X11_5
        have f_v15_X10_1 := u.1 _ _ _ _ f_v15_X10_1
        have f_v18_X8_1 := u.1 _ _ _ _ f_v18_X8_1
        have f_v11_X8_8 := u.1 _ _ _ _ f_v11_X8_8
        refine lv_aload_n hx hb dX11_least_42 rfl (lv_at hl 0 rfl) ?_
        refine t_getr (k1 := 5) (ci := 11) (C := RX11) (T := TX11) (N := 12) hx hb hts iX11 hown hw k_a0 rfl rfl rfl 8 (by decide) (hts _ tw_431) (fun _ h9 => h9) dX11_least_43 rfl (fun v43 k_v43 f_a0_X11_8 => ?_)
        refine lv_aload_n hx hb dX11_least_46 rfl (lv_at hl 0 rfl) ?_
        refine t_getk (ci := 11) (C := RX11) (T := TX11) (N := 12) hx hb hts iX11 hown hw rfl 5 (by decide) (hts _ tw_428) (fun _ h9 => h9) dX11_least_47 f_a0_X11_5 ?_
        refine t_getr (k1 := 0) (ci := 10) (C := RX10) (T := TX10) (N := 8) hx hb hts iX10 hown hw k_v15 rfl rfl rfl 0 (by decide) (hts _ tw_282) (fun _ h9 => h9) dX11_least_50 rfl (fun v50 k_v50 f_v15_X10_0 => ?_)
        refine lv_aload_n hx hb dX11_least_53 rfl (lv_at hl 0 rfl) ?_
        refine t_getk (ci := 11) (C := RX11) (T := TX11) (N := 12) hx hb hts iX11 hown hw rfl 11 (by decide) (hts _ tw_434) (fun _ h9 => h9) dX11_least_54 f_a0_X11_11 ?_
        refine lv_aload_n hx hb dX11_least_57 rfl (lv_at hl 0 rfl) ?_
        refine t_callq (va_runV (As := []) (rest := [.ref v11, .ref v50, .ref v43]) ⟨hx, hb, hml, hown, hts⟩ (t_X11_ruleInForce l dC dI tys κ B w_3 hw.2.2.2.2 a0 k_a0 H.size) (cwV 0 hts (gUV tw_756 tw_758 ts_1_3 tw_1 tw_759) rfl rfl rfl (by decide +kernel) ⟨(Nat.le_of_ble_eq_true rfl), (Nat.le_of_ble_eq_true rfl)⟩) ⟨cPre.blind, t_recv hw (ci := 11) k_a0 rfl rfl, cPre.use hw.2.1 hw.1 hw.2.2.1 hE⟩ rfl rfl hl.1 rfl (lv_room (Nat.le_of_ble_eq_true rfl)) dX11_least_58 ⟨(Nat.le_of_ble_eq_true rfl), (Nat.le_of_ble_eq_true rfl)⟩) hw hA (fun _ _ h => h.2.1) (fun v58 w_4 H locs hp hw => ?_)
        obtain ⟨k_v58, _, hm⟩ := hp
        have hM := hM.trans hm (by decide) (by decide)
        have f_a0_X11_11 := hm.1 _ _ _ _ f_a0_X11_11 (by decide)
        have f_a0_X11_5 := hm.1 _ _ _ _ f_a0_X11_5 (by decide)
        have f_v15_X10_1 := hm.1 _ _ _ _ f_v15_X10_1 (by decide)
        have f_v18_X8_1 := hm.1 _ _ _ _ f_v18_X8_1 (by decide)
        have f_v11_X8_8 := hm.1 _ _ _ _ f_v11_X8_8 (by decide)
        have f_a0_X11_8 := hm.1 _ _ _ _ f_a0_X11_8 (by decide)
        have f_v15_X10_0 := hm.1 _ _ _ _ f_v15_X10_0 (by decide)
        refine t_callv (va_runV (As := [.ref v50, .ref v11, va_rf v58]) (rest := []) ⟨hx, hb, hml, hown, hts⟩ (t_X5_hold l dC dI tys κ B w_4 hw.2.2.2.2 v43 k_v43 v50 k_v50 v11 k_v11 v58 k_v58 H.size) (cwV 3 hts (gUV tw_903 tw_765 tw_766 tw_10 tw_767) rfl rfl rfl (by decide +kernel) ⟨(Nat.le_of_ble_eq_true rfl), (Nat.le_of_ble_eq_true rfl)⟩) ⟨cPre.blind, t_recv hw (ci := 5) k_v43 rfl rfl, cPre.use hw.2.1 hw.1 hw.2.2.1 hE⟩ rfl rfl hl.1 rfl (lv_room (Nat.le_of_ble_eq_true rfl)) dX11_least_61 ⟨(Nat.le_of_ble_eq_true rfl), (Nat.le_of_ble_eq_true rfl)⟩) hw hA (fun _ h => h.1) (fun w_5 H locs hp hw => ?_)
        obtain ⟨_, hm⟩ := hp
        have hM := hM.trans hm (by decide) (by decide)
        have f_a0_X11_11 := hm.1 _ _ _ _ f_a0_X11_11 (by decide)
        have f_a0_X11_5 := hm.1 _ _ _ _ f_a0_X11_5 (by decide)
        have f_v15_X10_1 := hm.1 _ _ _ _ f_v15_X10_1 (by decide)
        have f_v18_X8_1 := hm.1 _ _ _ _ f_v18_X8_1 (by decide)
        have f_v11_X8_8 := hm.1 _ _ _ _ f_v11_X8_8 (by decide)
        have f_a0_X11_8 := hm.1 _ _ _ _ f_a0_X11_8 (by decide)
        have f_v15_X10_0 := hm.1 _ _ _ _ f_v15_X10_0 (by decide)
        refine lv_aload_n hx hb dX11_least_64 rfl (lv_at hl 0 rfl) ?_
        refine t_getk (ci := 11) (C := RX11) (T := TX11) (N := 12) hx hb hts iX11 hown hw rfl 8 (by decide) (hts _ tw_431) (fun _ h9 => h9) dX11_least_65 f_a0_X11_8 ?_
        refine t_geti (ci := 5) (C := RX5) (T := TX5) (N := 8) hx hb hts iX5 hown hw k_v43 rfl rfl rfl 5 (by decide) (hts _ tw_353) (fun _ h9 => h9) dX11_least_68 rfl (fun v68 l_v68 h_v68 f_v43_X5_5 => ?_)
        have l_v68 : (-1) ≤ v68.toInt := l_v68
        have h_v68 : v68.toInt ≤ 5 := h_v68
        refine lv_iload_n hx hb dX11_least_71 rfl (lv_at hl 1 rfl) ?_
        refine lv_icmp_ne (tgt := 77) hx hb dX11_least_72 (by decide) (fun c_72 => ?_) (fun c_72 => ?_)
        · simp only [fa_lt, fa_le, fa_eq] at c_72
          obtain ⟨v77, e_v77⟩ : ∃ y : Int32, y = p26_l2 + 1 := ⟨_, rfl⟩
          refine lv_iinc (v := v77) (lv' := [(2, .int v77), (0, .ref a0), (1, .int a1)]) hx hb dX11_least_77 hl (k := 2) rfl e_v77.symm (by decide) rfl (fun ls hl => ?_)
          have e_v77 : v77.toInt = p26_l2.toInt + 1 := ad_i e_v77 rfl li_1 (by omega) (by omega)
          refine lv_goto (tgt := 26) hx hb dX11_least_80 (by decide) ?_
          exact ih_26 _ _ _ _ (by omega) ⟨w_5, v77, hw, hM, (by omega), (by omega), f_a0_X11_11, f_a0_X11_5, f_v15_X10_1, f_v18_X8_1, (lv_sub hl [1, 2, 0] rfl), rfl⟩
        · simp only [fa_lt, fa_le, fa_eq] at c_72
          refine lv_iload_n hx hb dX11_least_75 rfl (lv_at hl 2 rfl) ?_
          rw [hQ]
          refine W.widen (k := 0) (n := 0) (Nat.le_refl _) (Nat.le_refl _) ?_
          exact W.iret (v := p26_l2) hx hb hr (fun t ht hW => ⟨⟨p26_l2, w_5, rfl, ⟨(by omega), (by omega), hw.2.2.2.2, hM⟩, by rw [ht]; exact hw.2.1, va_K.moved hW.alike hw.1, hw.2.2.1⟩, hw.2.2.2.1.F ht⟩) hw.2.2.2.1.2.2 dX11_least_76
    exact J26 _ _ _ _ ⟨w_2, 0, hw, hM, (by decide), (by decide), f_a0_X11_11, f_a0_X11_5, f_v15_X10_1, f_v18_X8_1, (lv_sub hl [1, 2, 0] rfl), rfl⟩
  · simp only [fa_lt, fa_le, fa_eq, li_0] at c_5
    refine lv_iconst (v := (-1)) hx hb dX11_least_8 (by decide) ?_
    rw [hQ]
    refine W.widen (k := 0) (n := 0) (Nat.le_refl _) (Nat.le_refl _) ?_
    exact W.iret (v := (-1)) hx hb hr (fun t ht hW => ⟨⟨(-1), w_1, rfl, ⟨(by decide), (by decide), hw.2.2.2.2, hM⟩, by rw [ht]; exact hw.2.1, va_K.moved hW.alike hw.1, hw.2.2.1⟩, hw.2.2.2.1.F ht⟩) hw.2.2.2.1.2.2 dX11_least_9
set_option maxHeartbeats 4000000 in
set_option maxRecDepth 100000 in
theorem t_X8_partUpwards (l : Launch) (dC : Nat → ClassId) (dI : Nat → Nat → Nat) (tys : List (ClassId × FieldType)) (κ : tK) (B : Nat) (ws : va_W) (hT : Ty κ tys B ws) (a0 : Int32) (a1 : Int32) (a2 : Int32) (l_a2 : 100 ≤ a2.toInt) (h_a2 : a2.toInt ≤ 1000) (sz : Nat) : Met l yX8_partUpwards (ws_u yX8_partUpwards cX8_partUpwards 3 (some .int)) ({ frames := 0, cells := 0, slots := 0, locals := 0 }) (va_Pc [.int a0, .int a1, .int a2] (cPre (dC, dI) tys ws sz)) (va_Qi (fun (r : Int32) (w : va_W) => Ty κ tys B w ∧ Sm [] [] κ ws w) (fun w t => cPost (dC, dI) tys w (va_A ws sz) t) (va_A ws sz)) 0 0 (va_A ws sz) := by
  refine Met.ofW (cc := cX8_partUpwards) (maxL := 3) (ret := (some .int)) (by decide) rfl ?_
  intro p e s m args below meth c s₁ B0 hml hv
  obtain ⟨rfl, hsz, hP, hK, hD0, hE⟩ := hv
  have hx := B0.exec
  have hb := B0.bytes
  have hr := B0.returns
  have hts0 := atoms_spec (ws := ws_u yX8_partUpwards cX8_partUpwards 3 (some .int)) B0.pre
  have hts : ∀ w ∈ gT, w.before _ s = true := fun w h => hts0 w (List.mem_cons_of_mem _ h)
  have hown : s.vm.findClass RX8 = some m.cls := findClass_of_methodNamed B0.named
  have hlocks := B0.notSynchronized
  subst hsz
  have hD := hD0.self (sz := s.heap.size)
  generalize hAe : va_A ws s.heap.size = A at hD ⊢
  have hA : ∀ q : Nat, s.heap.size ≤ q → A q := fun q h => by rw [← hAe]; exact Or.inr h
  have hw : tW (dC, dI) tys κ B A s ws s.heap [] := ⟨hK, hP, hD, va_S.rf, hT⟩
  have hM : Sm [] [] κ ws ws := Sm.rf
  clear hP hK hD hD0 hts0
  have l_a0 := i32_lo a0
  have h_a0 := i32_hi a0
  have l_a1 := i32_lo a1
  have h_a1 := i32_hi a1
  have hl := lv_entry ([.int a0, .int a1, .int a2]) (n := 3) (Nat.le_of_ble_eq_true rfl)
  rw [lg_entry_eq]
  generalize (lg_sl ([.int a0, .int a1, .int a2]) ++ List.replicate (3 - (lg_sl ([.int a0, .int a1, .int a2])).length) Slot.unset).toArray = ls at hl ⊢
  have hl : lv_has ls 3 [(0, .int a0), (1, .int a1), (2, .int a2)] := hl
  refine t_start (fun QQ hQ => ?_)
  refine lv_iload_n hx hb dX8_partUpwards_0 rfl (lv_at hl 2 rfl) ?_
  refine lv_iconst (v := 1) hx hb dX8_partUpwards_1 (by decide) ?_
  refine lv_icmp_ge (tgt := 9) hx hb dX8_partUpwards_2 (by decide) (fun c_2 => ?_) (fun c_2 => by exfalso; simp only [fa_lt, fa_le, fa_eq, li_1] at c_2; omega)
  simp only [fa_lt, fa_le, fa_eq, li_1] at c_2
  refine lv_iload_n hx hb dX8_partUpwards_9 rfl (lv_at hl 0 rfl) ?_
  refine lv_iload_n hx hb dX8_partUpwards_10 rfl (lv_at hl 1 rfl) ?_
  refine lv_imul hx hb dX8_partUpwards_11 ?_
  refine lv_topi (fun v11 e_v11 => ?_)
  have l_v11 := i32_lo v11
  have h_v11 := i32_hi v11
  refine lv_iload_n hx hb dX8_partUpwards_12 rfl (lv_at hl 2 rfl) ?_
  refine lv_iadd hx hb dX8_partUpwards_13 ?_
  refine lv_topi (fun v13 e_v13 => ?_)
  have l_v13 := i32_lo v13
  have h_v13 := i32_hi v13
  refine lv_iconst (v := 1) hx hb dX8_partUpwards_14 (by decide) ?_
  refine lv_isub hx hb dX8_partUpwards_15 ?_
  refine lv_topi (fun v15 e_v15 => ?_)
  have l_v15 := i32_lo v15
  have h_v15 := i32_hi v15
  refine lv_iload_n hx hb dX8_partUpwards_16 rfl (lv_at hl 2 rfl) ?_
  refine lv_idiv hx hb dX8_partUpwards_17 (ne_i rfl (by omega)) ?_
  refine lv_topi (fun v17 e_v17 => ?_)
  have l_v17 := i32_lo v17
  have h_v17 := i32_hi v17
  rw [hQ]
  refine W.widen (k := 0) (n := 0) (Nat.le_refl _) (Nat.le_refl _) ?_
  exact W.iret (v := v17) hx hb hr (fun t ht hW => ⟨⟨v17, ws, rfl, ⟨hw.2.2.2.2, hM⟩, by rw [ht]; exact hw.2.1, va_K.moved hW.alike hw.1, hw.2.2.1⟩, hw.2.2.2.1.F ht⟩) hw.2.2.2.1.2.2 dX8_partUpwards_18
set_option maxHeartbeats 4000000 in
set_option maxRecDepth 100000 in
theorem t_X11_likely (l : Launch) (dC : Nat → ClassId) (dI : Nat → Nat → Nat) (tys : List (ClassId × FieldType)) (κ : tK) (B : Nat) (ws : va_W) (hT : Ty κ tys B ws) (a0 : Nat) (k_a0 : κ a0 = some 11) (a1 : Int32) (a2 : Int32) (sz : Nat) : Met l yX11_likely (ws_u yX11_likely cX11_likely 5 (some .int)) ({ frames := 2, cells := 0, slots := 0, locals := 42 }) (va_Pc [.ref a0, .int a1, .int a2] (cPre (dC, dI) tys ws sz)) (va_Qi (fun (r : Int32) (w : va_W) => Ty κ tys B w ∧ Sm [] [] κ ws w) (fun w t => cPost (dC, dI) tys w (va_A ws sz) t) (va_A ws sz)) 0 0 (va_A ws sz) := by
  refine Met.ofW (cc := cX11_likely) (maxL := 5) (ret := (some .int)) (by decide) rfl ?_
  intro p e s m args below meth c s₁ B0 hml hv
  obtain ⟨rfl, hsz, hP, hK, hD0, hE⟩ := hv
  have hx := B0.exec
  have hb := B0.bytes
  have hr := B0.returns
  have hts0 := atoms_spec (ws := ws_u yX11_likely cX11_likely 5 (some .int)) B0.pre
  have hts : ∀ w ∈ gT, w.before _ s = true := fun w h => hts0 w (List.mem_cons_of_mem _ h)
  have hown : s.vm.findClass RX11 = some m.cls := findClass_of_methodNamed B0.named
  have hlocks := B0.notSynchronized
  subst hsz
  have hD := hD0.self (sz := s.heap.size)
  generalize hAe : va_A ws s.heap.size = A at hD ⊢
  have hA : ∀ q : Nat, s.heap.size ≤ q → A q := fun q h => by rw [← hAe]; exact Or.inr h
  have hw : tW (dC, dI) tys κ B A s ws s.heap [] := ⟨hK, hP, hD, va_S.rf, hT⟩
  have hM : Sm [] [] κ ws ws := Sm.rf
  clear hP hK hD hD0 hts0
  have l_a1 := i32_lo a1
  have h_a1 := i32_hi a1
  have l_a2 := i32_lo a2
  have h_a2 := i32_hi a2
  have hl := lv_entry ([.ref a0, .int a1, .int a2]) (n := 5) (Nat.le_of_ble_eq_true rfl)
  rw [lg_entry_eq]
  generalize (lg_sl ([.ref a0, .int a1, .int a2]) ++ List.replicate (5 - (lg_sl ([.ref a0, .int a1, .int a2])).length) Slot.unset).toArray = ls at hl ⊢
  have hl : lv_has ls 5 [(0, .ref a0), (1, .int a1), (2, .int a2)] := hl
  refine t_start (fun QQ hQ => ?_)
  refine lv_aload_n hx hb dX11_likely_0 rfl (lv_at hl 0 rfl) ?_
  refine lv_iload_n hx hb dX11_likely_1 rfl (lv_at hl 1 rfl) ?_
  refine t_calli (va_runV (As := [.int a1]) (rest := []) ⟨hx, hb, hml, hown, hts⟩ (t_X11_isAlive l dC dI tys κ B ws hw.2.2.2.2 a0 k_a0 a1 s.heap.size) (cwV 1 hts (gUV tw_870 tw_872 ts_1_14 tw_1 tw_873) rfl rfl rfl (by decide +kernel) ⟨(Nat.le_of_ble_eq_true rfl), (Nat.le_of_ble_eq_true rfl)⟩) ⟨cPre.blind, t_recv hw (ci := 11) k_a0 rfl rfl, cPre.use hw.2.1 hw.1 hw.2.2.1 hE⟩ rfl rfl hl.1 rfl (lv_room (Nat.le_of_ble_eq_true rfl)) dX11_likely_2 ⟨(Nat.le_of_ble_eq_true rfl), (Nat.le_of_ble_eq_true rfl)⟩) hw hA (fun _ _ h => h.2.2.1) (fun v2 w_1 H locs hp hw => ?_)
  obtain ⟨l_v2, h_v2, _, hm, x_v2_0⟩ := hp
  have hM := hM.trans hm (by decide) (by decide)
  refine lv_if_eq (tgt := 19) hx hb dX11_likely_5 (by decide) (fun c_5 => ?_) (fun c_5 => ?_)
  · simp only [fa_lt, fa_le, fa_eq, li_0] at c_5
    refine lv_iconst (v := (-1)) hx hb dX11_likely_19 (by decide) ?_
    rw [hQ]
    refine W.widen (k := 0) (n := 0) (Nat.le_refl _) (Nat.le_refl _) ?_
    exact W.iret (v := (-1)) hx hb hr (fun t ht hW => ⟨⟨(-1), w_1, rfl, ⟨hw.2.2.2.2, hM⟩, by rw [ht]; exact hw.2.1, va_K.moved hW.alike hw.1, hw.2.2.1⟩, hw.2.2.2.1.F ht⟩) hw.2.2.2.1.2.2 dX11_likely_20
  · simp only [fa_lt, fa_le, fa_eq, li_0] at c_5
    refine lv_iload_n hx hb dX11_likely_8 rfl (lv_at hl 2 rfl) ?_
    refine lv_iconst (v := 1) hx hb dX11_likely_9 (by decide) ?_
    refine lv_icmp_lt (tgt := 19) hx hb dX11_likely_10 (by decide) (fun c_10 => ?_) (fun c_10 => ?_)
    · simp only [fa_lt, fa_le, fa_eq, li_1] at c_10
      refine lv_iconst (v := (-1)) hx hb dX11_likely_19 (by decide) ?_
      rw [hQ]
      refine W.widen (k := 0) (n := 0) (Nat.le_refl _) (Nat.le_refl _) ?_
      exact W.iret (v := (-1)) hx hb hr (fun t ht hW => ⟨⟨(-1), w_1, rfl, ⟨hw.2.2.2.2, hM⟩, by rw [ht]; exact hw.2.1, va_K.moved hW.alike hw.1, hw.2.2.1⟩, hw.2.2.2.1.F ht⟩) hw.2.2.2.1.2.2 dX11_likely_20
    · simp only [fa_lt, fa_le, fa_eq, li_1] at c_10
      refine lv_iload_n hx hb dX11_likely_13 rfl (lv_at hl 2 rfl) ?_
      refine lv_bipush (v := 60) hx hb dX11_likely_14 (by decide) ?_
      refine lv_icmp_le (tgt := 21) hx hb dX11_likely_16 (by decide) (fun c_16 => ?_) (fun c_16 => ?_)
      · simp only [fa_lt, fa_le, fa_eq, li_60] at c_16
        refine lv_sipush (v := 10000) hx hb dX11_likely_21 (by decide) ?_
        refine lv_istore_n (lv' := [(3, .int 10000), (0, .ref a0), (1, .int a1), (2, .int a2)]) hx hb dX11_likely_24 rfl hl (by decide) rfl (fun ls hl => ?_)
        refine lv_iconst (v := 0) hx hb dX11_likely_25 (by decide) ?_
        refine lv_istore (lv' := [(4, .int 0), (3, .int 10000), (0, .ref a0), (1, .int a1), (2, .int a2)]) hx hb dX11_likely_26 hl (by decide) rfl (fun ls hl => ?_)
        have J28 : ∀ (n : Nat) (H : Heap) (locs : List Loc) (ls : Array Slot), (∃ (w28 : va_W) (p28_l3 : Int32) (p28_l4 : Int32), tW (dC, dI) tys κ B A s w28 H locs ∧ Sm [] [] κ ws w28 ∧ (-2147483648) ≤ p28_l3.toInt ∧ p28_l3.toInt ≤ 2147483647 ∧ 0 ≤ p28_l4.toInt ∧ p28_l4.toInt ≤ 60 ∧ lv_has ls 5 [(0, .ref a0), (1, .int a1), (2, .int a2), (3, .int p28_l3), (4, .int p28_l4)] ∧ (60 - p28_l4.toInt).toNat = n) → W p l e (headSpec (ws_u yX11_likely cX11_likely 5 (some .int)) ({ frames := 2, cells := 0, slots := 0, locals := 42 })).room s m ([.ref a0, .int a1, .int a2] : List Value).toArray below meth c H locs 0 0 QQ (F0 m 28 ls []) := by
          refine loopT _ ?_
          intro n_28 H locs ls hI ih_28
          obtain ⟨w28, p28_l3, p28_l4, hw, hM, l_p28_l3, h_p28_l3, l_p28_l4, h_p28_l4, hl, hn_28⟩ := hI
          refine lv_iload hx hb dX11_likely_28 (lv_at hl 4 rfl) ?_
          refine lv_iload_n hx hb dX11_likely_30 rfl (lv_at hl 2 rfl) ?_
          refine lv_icmp_ge (tgt := 62) hx hb dX11_likely_31 (by decide) (fun c_31 => ?_) (fun c_31 => ?_)
          · simp only [fa_lt, fa_le, fa_eq] at c_31
            refine lv_sipush (v := 10000) hx hb dX11_likely_62 (by decide) ?_
            refine lv_iload_n hx hb dX11_likely_65 rfl (lv_at hl 3 rfl) ?_
            refine lv_isub hx hb dX11_likely_66 ?_
            refine lv_topi (fun v66 e_v66 => ?_)
            have l_v66 := i32_lo v66
            have h_v66 := i32_hi v66
            rw [hQ]
            refine W.widen (k := 0) (n := 0) (Nat.le_refl _) (Nat.le_refl _) ?_
            exact W.iret (v := v66) hx hb hr (fun t ht hW => ⟨⟨v66, w28, rfl, ⟨hw.2.2.2.2, hM⟩, by rw [ht]; exact hw.2.1, va_K.moved hW.alike hw.1, hw.2.2.1⟩, hw.2.2.2.1.F ht⟩) hw.2.2.2.1.2.2 dX11_likely_67
          · simp only [fa_lt, fa_le, fa_eq] at c_31
            refine lv_iload_n hx hb dX11_likely_34 rfl (lv_at hl 3 rfl) ?_
            refine lv_iload_n hx hb dX11_likely_35 rfl (lv_at hl 3 rfl) ?_
            refine lv_aload_n hx hb dX11_likely_36 rfl (lv_at hl 0 rfl) ?_
            refine t_getr (k1 := 10) (ci := 11) (C := RX11) (T := TX11) (N := 12) hx hb hts iX11 hown hw k_a0 rfl rfl rfl 5 (by decide) (hts _ tw_428) (fun _ h9 => h9) dX11_likely_37 rfl (fun v37 k_v37 f_a0_X11_5 => ?_)
            refine t_getr (k1 := 8) (ci := 10) (C := RX10) (T := TX10) (N := 8) hx hb hts iX10 hown hw k_v37 rfl rfl rfl 1 (by decide) (hts _ tw_285) (fun _ h9 => h9) dX11_likely_40 rfl (fun v40 k_v40 f_v37_X10_1 => ?_)
            refine t_getr (k1 := 46) (ci := 8) (C := RX8) (T := TX8) (N := 13) hx hb hts iX8 hown hw k_v40 rfl rfl rfl 10 (by decide) (hts _ tw_249) (fun _ h9 => h9) dX11_likely_43 rfl (fun v43 k_v43 f_v40_X8_10 => ?_)
            refine lv_iload_n hx hb dX11_likely_46 rfl (lv_at hl 1 rfl) ?_
            refine t_iald hx hb hw k_v43 rfl rfl (by omega) (show a1.toInt < 4 by omega) dX11_likely_47 (fun v47 r_v47 s_v47 q_v47 => ?_)
            have l_v47 := i32_lo v47
            have h_v47 := i32_hi v47
            refine lv_sipush (v := 1000) hx hb dX11_likely_48 (by decide) ?_
            refine t_calli (va_runS (As := [.int p28_l3, .int v47, .int 1000]) (rest := [.int p28_l3]) ⟨hx, hb, hml, hown, hts⟩ (t_X8_partUpwards l dC dI tys κ B w28 hw.2.2.2.2 p28_l3 v47 1000 (by decide) (by decide) H.size) (va_cwS 3 hts (gUS tw_1006 tw_859 tw_8 tw_860) rfl rfl rfl (by decide +kernel) ⟨(Nat.le_of_ble_eq_true rfl), (Nat.le_of_ble_eq_true rfl)⟩) ⟨cPre.blind, cPre.use hw.2.1 hw.1 hw.2.2.1 hE⟩ rfl rfl hl.1 rfl (lv_room (Nat.le_of_ble_eq_true rfl)) dX11_likely_51 ⟨(Nat.le_of_ble_eq_true rfl), (Nat.le_of_ble_eq_true rfl)⟩) hw hA (fun _ _ h => h.1) (fun v51 w_2 H locs hp hw => ?_)
            obtain ⟨_, hm⟩ := hp
            have l_v51 := i32_lo v51
            have h_v51 := i32_hi v51
            have hM := hM.trans hm (by decide) (by decide)
            have f_a0_X11_5 := hm.1 _ _ _ _ f_a0_X11_5 (by decide)
            have f_v37_X10_1 := hm.1 _ _ _ _ f_v37_X10_1 (by decide)
            have f_v40_X8_10 := hm.1 _ _ _ _ f_v40_X8_10 (by decide)
            refine lv_isub hx hb dX11_likely_54 ?_
            refine lv_topi (fun v54 e_v54 => ?_)
            have l_v54 := i32_lo v54
            have h_v54 := i32_hi v54
            refine lv_istore_n (lv' := [(3, .int v54), (0, .ref a0), (1, .int a1), (2, .int a2), (4, .int p28_l4)]) hx hb dX11_likely_55 rfl hl (by decide) rfl (fun ls hl => ?_)
            obtain ⟨v56, e_v56⟩ : ∃ y : Int32, y = p28_l4 + 1 := ⟨_, rfl⟩
            refine lv_iinc (v := v56) (lv' := [(4, .int v56), (3, .int v54), (0, .ref a0), (1, .int a1), (2, .int a2)]) hx hb dX11_likely_56 hl (k := 4) rfl e_v56.symm (by decide) rfl (fun ls hl => ?_)
            have e_v56 : v56.toInt = p28_l4.toInt + 1 := ad_i e_v56 rfl li_1 (by omega) (by omega)
            refine lv_goto (tgt := 28) hx hb dX11_likely_59 (by decide) ?_
            exact ih_28 _ _ _ _ (by omega) ⟨w_2, v54, v56, hw, hM, (by omega), (by omega), (by omega), (by omega), (lv_sub hl [2, 3, 4, 1, 0] rfl), rfl⟩
        exact J28 _ _ _ _ ⟨w_1, 10000, 0, hw, hM, (by decide), (by decide), (by decide), (by decide), (lv_sub hl [2, 3, 4, 1, 0] rfl), rfl⟩
      · simp only [fa_lt, fa_le, fa_eq, li_60] at c_16
        refine lv_iconst (v := (-1)) hx hb dX11_likely_19 (by decide) ?_
        rw [hQ]
        refine W.widen (k := 0) (n := 0) (Nat.le_refl _) (Nat.le_refl _) ?_
        exact W.iret (v := (-1)) hx hb hr (fun t ht hW => ⟨⟨(-1), w_1, rfl, ⟨hw.2.2.2.2, hM⟩, by rw [ht]; exact hw.2.1, va_K.moved hW.alike hw.1, hw.2.2.1⟩, hw.2.2.2.1.F ht⟩) hw.2.2.2.1.2.2 dX11_likely_20
set_option maxHeartbeats 4000000 in
set_option maxRecDepth 100000 in
theorem t_X11_likes (l : Launch) (dC : Nat → ClassId) (dI : Nat → Nat → Nat) (tys : List (ClassId × FieldType)) (κ : tK) (B : Nat) (ws : va_W) (hT : Ty κ tys B ws) (a0 : Nat) (k_a0 : κ a0 = some 11) (a1 : Int32) (a2 : Int32) (sz : Nat) : Met l yX11_likes (ws_u yX11_likes cX11_likes 3 (some .int)) ({ frames := 1, cells := 0, slots := 0, locals := 21 }) (va_Pc [.ref a0, .int a1, .int a2] (cPre (dC, dI) tys ws sz)) (va_Qi (fun (r : Int32) (w : va_W) => Ty κ tys B w ∧ Sm [] [] κ ws w) (fun w t => cPost (dC, dI) tys w (va_A ws sz) t) (va_A ws sz)) 0 0 (va_A ws sz) := by
  refine Met.ofW (cc := cX11_likes) (maxL := 3) (ret := (some .int)) (by decide) rfl ?_
  intro p e s m args below meth c s₁ B0 hml hv
  obtain ⟨rfl, hsz, hP, hK, hD0, hE⟩ := hv
  have hx := B0.exec
  have hb := B0.bytes
  have hr := B0.returns
  have hts0 := atoms_spec (ws := ws_u yX11_likes cX11_likes 3 (some .int)) B0.pre
  have hts : ∀ w ∈ gT, w.before _ s = true := fun w h => hts0 w (List.mem_cons_of_mem _ h)
  have hown : s.vm.findClass RX11 = some m.cls := findClass_of_methodNamed B0.named
  have hlocks := B0.notSynchronized
  subst hsz
  have hD := hD0.self (sz := s.heap.size)
  generalize hAe : va_A ws s.heap.size = A at hD ⊢
  have hA : ∀ q : Nat, s.heap.size ≤ q → A q := fun q h => by rw [← hAe]; exact Or.inr h
  have hw : tW (dC, dI) tys κ B A s ws s.heap [] := ⟨hK, hP, hD, va_S.rf, hT⟩
  have hM : Sm [] [] κ ws ws := Sm.rf
  clear hP hK hD hD0 hts0
  have l_a1 := i32_lo a1
  have h_a1 := i32_hi a1
  have l_a2 := i32_lo a2
  have h_a2 := i32_hi a2
  have hl := lv_entry ([.ref a0, .int a1, .int a2]) (n := 3) (Nat.le_of_ble_eq_true rfl)
  rw [lg_entry_eq]
  generalize (lg_sl ([.ref a0, .int a1, .int a2]) ++ List.replicate (3 - (lg_sl ([.ref a0, .int a1, .int a2])).length) Slot.unset).toArray = ls at hl ⊢
  have hl : lv_has ls 3 [(0, .ref a0), (1, .int a1), (2, .int a2)] := hl
  refine t_start (fun QQ hQ => ?_)
  refine lv_aload_n hx hb dX11_likes_0 rfl (lv_at hl 0 rfl) ?_
  refine lv_iload_n hx hb dX11_likes_1 rfl (lv_at hl 1 rfl) ?_
  refine t_calli (va_runV (As := [.int a1]) (rest := []) ⟨hx, hb, hml, hown, hts⟩ (t_X11_isBoy l dC dI tys κ B ws hw.2.2.2.2 a0 k_a0 a1 s.heap.size) (cwV 1 hts (gUV tw_710 tw_712 ts_0_15 tw_1 tw_713) rfl rfl rfl (by decide +kernel) ⟨(Nat.le_of_ble_eq_true rfl), (Nat.le_of_ble_eq_true rfl)⟩) ⟨cPre.blind, t_recv hw (ci := 11) k_a0 rfl rfl, cPre.use hw.2.1 hw.1 hw.2.2.1 hE⟩ rfl rfl hl.1 rfl (lv_room (Nat.le_of_ble_eq_true rfl)) dX11_likes_2 ⟨(Nat.le_of_ble_eq_true rfl), (Nat.le_of_ble_eq_true rfl)⟩) hw hA (fun _ _ h => h.2.2.1) (fun v2 w_1 H locs hp hw => ?_)
  obtain ⟨l_v2, h_v2, _, hm, x_v2_0⟩ := hp
  have hM := hM.trans hm (by decide) (by decide)
  refine lv_if_eq (tgt := 16) hx hb dX11_likes_5 (by decide) (fun c_5 => ?_) (fun c_5 => ?_)
  · simp only [fa_lt, fa_le, fa_eq, li_0] at c_5
    refine lv_iconst (v := (-1)) hx hb dX11_likes_16 (by decide) ?_
    rw [hQ]
    refine W.widen (k := 0) (n := 0) (Nat.le_refl _) (Nat.le_refl _) ?_
    exact W.iret (v := (-1)) hx hb hr (fun t ht hW => ⟨⟨(-1), w_1, rfl, ⟨hw.2.2.2.2, hM⟩, by rw [ht]; exact hw.2.1, va_K.moved hW.alike hw.1, hw.2.2.1⟩, hw.2.2.2.1.F ht⟩) hw.2.2.2.1.2.2 dX11_likes_17
  · simp only [fa_lt, fa_le, fa_eq, li_0] at c_5
    refine lv_aload_n hx hb dX11_likes_8 rfl (lv_at hl 0 rfl) ?_
    refine lv_iload_n hx hb dX11_likes_9 rfl (lv_at hl 2 rfl) ?_
    refine t_calli (va_runV (As := [.int a2]) (rest := []) ⟨hx, hb, hml, hown, hts⟩ (t_X11_isBoy l dC dI tys κ B w_1 hw.2.2.2.2 a0 k_a0 a2 H.size) (cwV 1 hts (gUV tw_710 tw_712 ts_0_15 tw_1 tw_713) rfl rfl rfl (by decide +kernel) ⟨(Nat.le_of_ble_eq_true rfl), (Nat.le_of_ble_eq_true rfl)⟩) ⟨cPre.blind, t_recv hw (ci := 11) k_a0 rfl rfl, cPre.use hw.2.1 hw.1 hw.2.2.1 hE⟩ rfl rfl hl.1 rfl (lv_room (Nat.le_of_ble_eq_true rfl)) dX11_likes_10 ⟨(Nat.le_of_ble_eq_true rfl), (Nat.le_of_ble_eq_true rfl)⟩) hw hA (fun _ _ h => h.2.2.1) (fun v10 w_2 H locs hp hw => ?_)
    obtain ⟨l_v10, h_v10, _, hm, x_v10_0⟩ := hp
    have hM := hM.trans hm (by decide) (by decide)
    refine lv_if_ne (tgt := 18) hx hb dX11_likes_13 (by decide) (fun c_13 => ?_) (fun c_13 => ?_)
    · simp only [fa_lt, fa_le, fa_eq, li_0] at c_13
      refine lv_aload_n hx hb dX11_likes_18 rfl (lv_at hl 0 rfl) ?_
      refine t_getr (k1 := 10) (ci := 11) (C := RX11) (T := TX11) (N := 12) hx hb hts iX11 hown hw k_a0 rfl rfl rfl 5 (by decide) (hts _ tw_428) (fun _ h9 => h9) dX11_likes_19 rfl (fun v19 k_v19 f_a0_X11_5 => ?_)
      refine t_getr (k1 := 0) (ci := 10) (C := RX10) (T := TX10) (N := 8) hx hb hts iX10 hown hw k_v19 rfl rfl rfl 0 (by decide) (hts _ tw_282) (fun _ h9 => h9) dX11_likes_22 rfl (fun v22 k_v22 f_v19_X10_0 => ?_)
      refine t_getr (k1 := 23) (ci := 0) (C := RX0) (T := TX0) (N := 16) hx hb hts iX0 hown hw k_v22 rfl rfl rfl 9 (by decide) (hts _ tw_104) (fun _ h9 => h9) dX11_likes_25 rfl (fun v25 k_v25 f_v22_X0_9 => ?_)
      refine lv_iload_n hx hb dX11_likes_28 rfl (lv_at hl 1 rfl) ?_
      refine lv_bipush (v := 6) hx hb dX11_likes_29 (by decide) ?_
      refine lv_imul hx hb dX11_likes_31 ?_
      refine lv_topi (fun v31 e_v31 => ?_)
      have e_v31 : v31.toInt = a1.toInt * 6 := ml_i e_v31 rfl li_6 (by omega) (by omega)
      refine lv_iload_n hx hb dX11_likes_32 rfl (lv_at hl 2 rfl) ?_
      refine lv_iadd hx hb dX11_likes_33 ?_
      refine lv_topi (fun v33 e_v33 => ?_)
      have e_v33 : v33.toInt = v31.toInt + a2.toInt := ad_i e_v33 rfl rfl (by omega) (by omega)
      refine t_iald hx hb hw k_v25 rfl rfl (by omega) (show v33.toInt < 36 by omega) dX11_likes_34 (fun v34 r_v34 s_v34 q_v34 => ?_)
      have l_v34 := i32_lo v34
      have h_v34 := i32_hi v34
      rw [hQ]
      refine W.widen (k := 0) (n := 0) (Nat.le_refl _) (Nat.le_refl _) ?_
      exact W.iret (v := v34) hx hb hr (fun t ht hW => ⟨⟨v34, w_2, rfl, ⟨hw.2.2.2.2, hM⟩, by rw [ht]; exact hw.2.1, va_K.moved hW.alike hw.1, hw.2.2.1⟩, hw.2.2.2.1.F ht⟩) hw.2.2.2.1.2.2 dX11_likes_35
    · simp only [fa_lt, fa_le, fa_eq, li_0] at c_13
      refine lv_iconst (v := (-1)) hx hb dX11_likes_16 (by decide) ?_
      rw [hQ]
      refine W.widen (k := 0) (n := 0) (Nat.le_refl _) (Nat.le_refl _) ?_
      exact W.iret (v := (-1)) hx hb hr (fun t ht hW => ⟨⟨(-1), w_2, rfl, ⟨hw.2.2.2.2, hM⟩, by rw [ht]; exact hw.2.1, va_K.moved hW.alike hw.1, hw.2.2.1⟩, hw.2.2.2.1.F ht⟩) hw.2.2.2.1.2.2 dX11_likes_17
set_option maxHeartbeats 4000000 in
set_option maxRecDepth 100000 in
theorem t_X2_isFitting (l : Launch) (dC : Nat → ClassId) (dI : Nat → Nat → Nat) (tys : List (ClassId × FieldType)) (κ : tK) (B : Nat) (ws : va_W) (hT : Ty κ tys B ws) (a0 : Nat) (k_a0 : κ a0 = some 2) (a1 : Int32) (l_a1 : 0 ≤ a1.toInt) (h_a1 : a1.toInt ≤ 6) (sz : Nat) : Met l yX2_isFitting (ws_u yX2_isFitting cX2_isFitting 2 (some .boolean)) ({ frames := 0, cells := 0, slots := 0, locals := 0 }) (va_Pc [.ref a0, .int a1] (cPre (dC, dI) tys ws sz)) (va_Qi (fun (r : Int32) (w : va_W) => 0 ≤ r.toInt ∧ r.toInt ≤ 1 ∧ Ty κ tys B w ∧ Sm [] [] κ ws w) (fun w t => cPost (dC, dI) tys w (va_A ws sz) t) (va_A ws sz)) 0 0 (va_A ws sz) := by
  refine Met.ofW (cc := cX2_isFitting) (maxL := 2) (ret := (some .boolean)) (by decide) rfl ?_
  intro p e s m args below meth c s₁ B0 hml hv
  obtain ⟨rfl, hsz, hP, hK, hD0, hE⟩ := hv
  have hx := B0.exec
  have hb := B0.bytes
  have hr := B0.returns
  have hts0 := atoms_spec (ws := ws_u yX2_isFitting cX2_isFitting 2 (some .boolean)) B0.pre
  have hts : ∀ w ∈ gT, w.before _ s = true := fun w h => hts0 w (List.mem_cons_of_mem _ h)
  have hown : s.vm.findClass RX2 = some m.cls := findClass_of_methodNamed B0.named
  have hlocks := B0.notSynchronized
  subst hsz
  have hD := hD0.self (sz := s.heap.size)
  generalize hAe : va_A ws s.heap.size = A at hD ⊢
  have hA : ∀ q : Nat, s.heap.size ≤ q → A q := fun q h => by rw [← hAe]; exact Or.inr h
  have hw : tW (dC, dI) tys κ B A s ws s.heap [] := ⟨hK, hP, hD, va_S.rf, hT⟩
  have hM : Sm [] [] κ ws ws := Sm.rf
  clear hP hK hD hD0 hts0
  have hl := lv_entry ([.ref a0, .int a1]) (n := 2) (Nat.le_of_ble_eq_true rfl)
  rw [lg_entry_eq]
  generalize (lg_sl ([.ref a0, .int a1]) ++ List.replicate (2 - (lg_sl ([.ref a0, .int a1])).length) Slot.unset).toArray = ls at hl ⊢
  have hl : lv_has ls 2 [(0, .ref a0), (1, .int a1)] := hl
  refine t_start (fun QQ hQ => ?_)
  refine lv_aload_n hx hb dX2_isFitting_0 rfl (lv_at hl 0 rfl) ?_
  refine t_geti (ci := 2) (C := RX2) (T := TX2) (N := 5) hx hb hts iX2 hown hw k_a0 rfl rfl rfl 4 (by decide) (hts _ tw_408) (fun _ h9 => h9) dX2_isFitting_1 rfl (fun v1 l_v1 h_v1 f_a0_X2_4 => ?_)
  have l_v1 : (-2147483648) ≤ v1.toInt := l_v1
  have h_v1 : v1.toInt ≤ 2147483647 := h_v1
  refine lv_iload_n hx hb dX2_isFitting_4 rfl (lv_at hl 1 rfl) ?_
  refine lv_ishr hx hb dX2_isFitting_5 ?_
  refine lv_topi (fun v5 e_v5 => ?_)
  have l_v5 := i32_lo v5
  have h_v5 := i32_hi v5
  refine lv_iconst (v := 1) hx hb dX2_isFitting_6 (by decide) ?_
  refine lv_iand hx hb dX2_isFitting_7 ?_
  refine lv_topi (fun v7 e_v7 => ?_)
  have ⟨l_v7, h_v7⟩ : 0 ≤ v7.toInt ∧ v7.toInt ≤ 1 := and_r e_v7 li_1 (by decide)
  refine lv_iconst (v := 1) hx hb dX2_isFitting_8 (by decide) ?_
  refine lv_icmp_ne (tgt := 16) hx hb dX2_isFitting_9 (by decide) (fun c_9 => ?_) (fun c_9 => ?_)
  · simp only [fa_lt, fa_le, fa_eq, li_1] at c_9
    refine lv_iconst (v := 0) hx hb dX2_isFitting_16 (by decide) ?_
    rw [hQ]
    refine W.widen (k := 0) (n := 0) (Nat.le_refl _) (Nat.le_refl _) ?_
    exact W.zret (v := 0) hx hb hr rfl (fun t ht hW => ⟨⟨0, ws, rfl, ⟨(by decide), (by decide), hw.2.2.2.2, hM⟩, by rw [ht]; exact hw.2.1, va_K.moved hW.alike hw.1, hw.2.2.1⟩, hw.2.2.2.1.F ht⟩) hw.2.2.2.1.2.2 dX2_isFitting_17
  · simp only [fa_lt, fa_le, fa_eq, li_1] at c_9
    refine lv_iconst (v := 1) hx hb dX2_isFitting_12 (by decide) ?_
    refine lv_goto (tgt := 17) hx hb dX2_isFitting_13 (by decide) ?_
    rw [hQ]
    refine W.widen (k := 0) (n := 0) (Nat.le_refl _) (Nat.le_refl _) ?_
    exact W.zret (v := 1) hx hb hr rfl (fun t ht hW => ⟨⟨1, ws, rfl, ⟨(by decide), (by decide), hw.2.2.2.2, hM⟩, by rw [ht]; exact hw.2.1, va_K.moved hW.alike hw.1, hw.2.2.1⟩, hw.2.2.2.1.F ht⟩) hw.2.2.2.1.2.2 dX2_isFitting_17
set_option maxHeartbeats 4000000 in
set_option maxRecDepth 100000 in
theorem t_X2_countAlike (l : Launch) (dC : Nat → ClassId) (dI : Nat → Nat → Nat) (tys : List (ClassId × FieldType)) (κ : tK) (B : Nat) (ws : va_W) (hT : Ty κ tys B ws) (a0 : Nat) (k_a0 : κ a0 = some 2) (a1 : Int32) (l_a1 : 0 ≤ a1.toInt) (h_a1 : a1.toInt ≤ 6) (a2 : Int32) (l_a2 : 0 ≤ a2.toInt) (h_a2 : a2.toInt ≤ 60) (sz : Nat) : Met l yX2_countAlike (ws_u yX2_countAlike cX2_countAlike 5 (some .int)) ({ frames := 1, cells := 0, slots := 0, locals := 21 }) (va_Pc [.ref a0, .int a1, .int a2] (cPre (dC, dI) tys ws sz)) (va_Qi (fun (r : Int32) (w : va_W) => Ty κ tys B w ∧ Sm [] [] κ ws w) (fun w t => cPost (dC, dI) tys w (va_A ws sz) t) (va_A ws sz)) 0 0 (va_A ws sz) := by
  refine Met.ofW (cc := cX2_countAlike) (maxL := 5) (ret := (some .int)) (by decide) rfl ?_
  intro p e s m args below meth c s₁ B0 hml hv
  obtain ⟨rfl, hsz, hP, hK, hD0, hE⟩ := hv
  have hx := B0.exec
  have hb := B0.bytes
  have hr := B0.returns
  have hts0 := atoms_spec (ws := ws_u yX2_countAlike cX2_countAlike 5 (some .int)) B0.pre
  have hts : ∀ w ∈ gT, w.before _ s = true := fun w h => hts0 w (List.mem_cons_of_mem _ h)
  have hown : s.vm.findClass RX2 = some m.cls := findClass_of_methodNamed B0.named
  have hlocks := B0.notSynchronized
  subst hsz
  have hD := hD0.self (sz := s.heap.size)
  generalize hAe : va_A ws s.heap.size = A at hD ⊢
  have hA : ∀ q : Nat, s.heap.size ≤ q → A q := fun q h => by rw [← hAe]; exact Or.inr h
  have hw : tW (dC, dI) tys κ B A s ws s.heap [] := ⟨hK, hP, hD, va_S.rf, hT⟩
  have hM : Sm [] [] κ ws ws := Sm.rf
  clear hP hK hD hD0 hts0
  have hl := lv_entry ([.ref a0, .int a1, .int a2]) (n := 5) (Nat.le_of_ble_eq_true rfl)
  rw [lg_entry_eq]
  generalize (lg_sl ([.ref a0, .int a1, .int a2]) ++ List.replicate (5 - (lg_sl ([.ref a0, .int a1, .int a2])).length) Slot.unset).toArray = ls at hl ⊢
  have hl : lv_has ls 5 [(0, .ref a0), (1, .int a1), (2, .int a2)] := hl
  refine t_start (fun QQ hQ => ?_)
  refine lv_iconst (v := 0) hx hb dX2_countAlike_0 (by decide) ?_
  refine lv_istore_n (lv' := [(3, .int 0), (0, .ref a0), (1, .int a1), (2, .int a2)]) hx hb dX2_countAlike_1 rfl hl (by decide) rfl (fun ls hl => ?_)
  refine lv_iconst (v := 0) hx hb dX2_countAlike_2 (by decide) ?_
  refine lv_istore (lv' := [(4, .int 0), (3, .int 0), (0, .ref a0), (1, .int a1), (2, .int a2)]) hx hb dX2_countAlike_3 hl (by decide) rfl (fun ls hl => ?_)
  have J5 : ∀ (n : Nat) (H : Heap) (locs : List Loc) (ls : Array Slot), (∃ (w5 : va_W) (p5_l3 : Int32) (p5_l4 : Int32), tW (dC, dI) tys κ B A s w5 H locs ∧ Sm [] [] κ ws w5 ∧ (-2147483648) ≤ p5_l3.toInt ∧ p5_l3.toInt ≤ 2147483647 ∧ 0 ≤ p5_l4.toInt ∧ p5_l4.toInt ≤ 7 ∧ lv_has ls 5 [(0, .ref a0), (1, .int a1), (2, .int a2), (3, .int p5_l3), (4, .int p5_l4)] ∧ (7 - p5_l4.toInt).toNat = n) → W p l e (headSpec (ws_u yX2_countAlike cX2_countAlike 5 (some .int)) ({ frames := 1, cells := 0, slots := 0, locals := 21 })).room s m ([.ref a0, .int a1, .int a2] : List Value).toArray below meth c H locs 0 0 QQ (F0 m 5 ls []) := by
    refine loopT _ ?_
    intro n_5 H locs ls hI ih_5
    obtain ⟨w5, p5_l3, p5_l4, hw, hM, l_p5_l3, h_p5_l3, l_p5_l4, h_p5_l4, hl, hn_5⟩ := hI
    refine lv_iload hx hb dX2_countAlike_5 (lv_at hl 4 rfl) ?_
    refine lv_bipush (v := 7) hx hb dX2_countAlike_7 (by decide) ?_
    refine lv_icmp_ge (tgt := 56) hx hb dX2_countAlike_9 (by decide) (fun c_9 => ?_) (fun c_9 => ?_)
    · simp only [fa_lt, fa_le, fa_eq, li_7] at c_9
      refine lv_iload_n hx hb dX2_countAlike_56 rfl (lv_at hl 3 rfl) ?_
      rw [hQ]
      refine W.widen (k := 0) (n := 0) (Nat.le_refl _) (Nat.le_refl _) ?_
      exact W.iret (v := p5_l3) hx hb hr (fun t ht hW => ⟨⟨p5_l3, w5, rfl, ⟨hw.2.2.2.2, hM⟩, by rw [ht]; exact hw.2.1, va_K.moved hW.alike hw.1, hw.2.2.1⟩, hw.2.2.2.1.F ht⟩) hw.2.2.2.1.2.2 dX2_countAlike_57
    · simp only [fa_lt, fa_le, fa_eq, li_7] at c_9
      refine lv_aload_n hx hb dX2_countAlike_12 rfl (lv_at hl 0 rfl) ?_
      refine lv_iload hx hb dX2_countAlike_13 (lv_at hl 4 rfl) ?_
      refine t_calli (va_runV (As := [.int p5_l4]) (rest := []) ⟨hx, hb, hml, hown, hts⟩ (t_X2_isFitting l dC dI tys κ B w5 hw.2.2.2.2 a0 k_a0 p5_l4 (by omega) (by omega) H.size) (cwV 1 hts (gUV tw_1041 tw_1043 ts_2_11 tw_12 tw_1044) rfl rfl rfl (by decide +kernel) ⟨(Nat.le_of_ble_eq_true rfl), (Nat.le_of_ble_eq_true rfl)⟩) ⟨cPre.blind, t_recv hw (ci := 2) k_a0 rfl rfl, cPre.use hw.2.1 hw.1 hw.2.2.1 hE⟩ rfl rfl hl.1 rfl (lv_room (Nat.le_of_ble_eq_true rfl)) dX2_countAlike_15 ⟨(Nat.le_of_ble_eq_true rfl), (Nat.le_of_ble_eq_true rfl)⟩) hw hA (fun _ _ h => h.2.2.1) (fun v15 w_1 H locs hp hw => ?_)
      obtain ⟨l_v15, h_v15, _, hm⟩ := hp
      have hM := hM.trans hm (by decide) (by decide)
      have J50 : ∀ (H : Heap) (locs : List Loc) (ls : Array Slot) (w50 : va_W) (p50_l3 : Int32), tW (dC, dI) tys κ B A s w50 H locs → Sm [] [] κ ws w50 → (-2147483648) ≤ p50_l3.toInt → p50_l3.toInt ≤ 2147483647 → lv_has ls 5 [(0, .ref a0), (1, .int a1), (2, .int a2), (3, .int p50_l3), (4, .int p5_l4)] → W p l e (headSpec (ws_u yX2_countAlike cX2_countAlike 5 (some .int)) ({ frames := 1, cells := 0, slots := 0, locals := 21 })).room s m ([.ref a0, .int a1, .int a2] : List Value).toArray below meth c H locs 0 0 QQ (F0 m 50 ls []) := by
        intro H locs ls w50 p50_l3 hw hM l_p50_l3 h_p50_l3 hl
        obtain ⟨v50, e_v50⟩ : ∃ y : Int32, y = p5_l4 + 1 := ⟨_, rfl⟩
        refine lv_iinc (v := v50) (lv' := [(4, .int v50), (0, .ref a0), (1, .int a1), (2, .int a2), (3, .int p50_l3)]) hx hb dX2_countAlike_50 hl (k := 4) rfl e_v50.symm (by decide) rfl (fun ls hl => ?_)
        have e_v50 : v50.toInt = p5_l4.toInt + 1 := ad_i e_v50 rfl li_1 (by omega) (by omega)
        refine lv_goto (tgt := 5) hx hb dX2_countAlike_53 (by decide) ?_
        exact ih_5 _ _ _ _ (by omega) ⟨w50, p50_l3, v50, hw, hM, (by omega), (by omega), (by omega), (by omega), (lv_sub hl [1, 2, 3, 4, 0] rfl), rfl⟩
      refine lv_if_eq (tgt := 50) hx hb dX2_countAlike_18 (by decide) (fun c_18 => ?_) (fun c_18 => ?_)
      · simp only [fa_lt, fa_le, fa_eq, li_0] at c_18
        exact J50 _ _ _ w_1 p5_l3 hw hM (by omega) (by omega) (lv_sub hl [0, 1, 2, 3, 4] rfl)
      · simp only [fa_lt, fa_le, fa_eq, li_0] at c_18
        refine lv_aload_n hx hb dX2_countAlike_21 rfl (lv_at hl 0 rfl) ?_
        refine t_getr (k1 := 30) (ci := 2) (C := RX2) (T := TX2) (N := 5) hx hb hts iX2 hown hw k_a0 rfl rfl rfl 2 (by decide) (hts _ tw_406) (fun _ h9 => h9) dX2_countAlike_22 rfl (fun v22 k_v22 f_a0_X2_2 => ?_)
        refine lv_iload hx hb dX2_countAlike_25 (lv_at hl 4 rfl) ?_
        refine lv_bipush (v := 61) hx hb dX2_countAlike_27 (by decide) ?_
        refine lv_imul hx hb dX2_countAlike_29 ?_
        refine lv_topi (fun v29 e_v29 => ?_)
        have e_v29 : v29.toInt = p5_l4.toInt * 61 := ml_i e_v29 rfl li_61 (by omega) (by omega)
        refine lv_iload_n hx hb dX2_countAlike_30 rfl (lv_at hl 2 rfl) ?_
        refine lv_iadd hx hb dX2_countAlike_31 ?_
        refine lv_topi (fun v31 e_v31 => ?_)
        have e_v31 : v31.toInt = v29.toInt + a2.toInt := ad_i e_v31 rfl rfl (by omega) (by omega)
        refine t_iald hx hb hw k_v22 rfl rfl (by omega) (show v31.toInt < 427 by omega) dX2_countAlike_32 (fun v32 r_v32 s_v32 q_v32 => ?_)
        have l_v32 := i32_lo v32
        have h_v32 := i32_hi v32
        refine lv_aload_n hx hb dX2_countAlike_33 rfl (lv_at hl 0 rfl) ?_
        refine t_getk (ci := 2) (C := RX2) (T := TX2) (N := 5) hx hb hts iX2 hown hw rfl 2 (by decide) (hts _ tw_406) (fun _ h9 => h9) dX2_countAlike_34 f_a0_X2_2 ?_
        refine lv_iload_n hx hb dX2_countAlike_37 rfl (lv_at hl 1 rfl) ?_
        refine lv_bipush (v := 61) hx hb dX2_countAlike_38 (by decide) ?_
        refine lv_imul hx hb dX2_countAlike_40 ?_
        refine lv_topi (fun v40 e_v40 => ?_)
        have e_v40 : v40.toInt = a1.toInt * 61 := ml_i e_v40 rfl li_61 (by omega) (by omega)
        refine lv_iload_n hx hb dX2_countAlike_41 rfl (lv_at hl 2 rfl) ?_
        refine lv_iadd hx hb dX2_countAlike_42 ?_
        refine lv_topi (fun v42 e_v42 => ?_)
        have e_v42 : v42.toInt = v40.toInt + a2.toInt := ad_i e_v42 rfl rfl (by omega) (by omega)
        refine t_iald hx hb hw k_v22 rfl rfl (by omega) (show v42.toInt < 427 by omega) dX2_countAlike_43 (fun v43 r_v43 s_v43 q_v43 => ?_)
        have l_v43 := i32_lo v43
        have h_v43 := i32_hi v43
        refine lv_icmp_ne (tgt := 50) hx hb dX2_countAlike_44 (by decide) (fun c_44 => ?_) (fun c_44 => ?_)
        · simp only [fa_lt, fa_le, fa_eq] at c_44
          exact J50 _ _ _ w_1 p5_l3 hw hM (by omega) (by omega) (lv_sub hl [0, 1, 2, 3, 4] rfl)
        · simp only [fa_lt, fa_le, fa_eq] at c_44
          obtain ⟨v47, e_v47⟩ : ∃ y : Int32, y = p5_l3 + 1 := ⟨_, rfl⟩
          refine lv_iinc (v := v47) (lv' := [(3, .int v47), (0, .ref a0), (1, .int a1), (2, .int a2), (4, .int p5_l4)]) hx hb dX2_countAlike_47 hl (k := 3) rfl e_v47.symm (by decide) rfl (fun ls hl => ?_)
          have l_v47 := i32_lo v47
          have h_v47 := i32_hi v47
          exact J50 _ _ _ w_1 v47 hw hM (by omega) (by omega) (lv_sub hl [1, 2, 3, 0, 4] rfl)
  exact J5 _ _ _ _ ⟨ws, 0, 0, hw, hM, (by decide), (by decide), (by decide), (by decide), (lv_sub hl [2, 3, 4, 1, 0] rfl), rfl⟩
set_option maxHeartbeats 4000000 in
set_option maxRecDepth 100000 in
theorem t_X2_mostAlike (l : Launch) (dC : Nat → ClassId) (dI : Nat → Nat → Nat) (tys : List (ClassId × FieldType)) (κ : tK) (B : Nat) (ws : va_W) (hT : Ty κ tys B ws) (a0 : Nat) (k_a0 : κ a0 = some 2) (a1 : Int32) (l_a1 : 0 ≤ a1.toInt) (h_a1 : a1.toInt ≤ 60) (sz : Nat) : Met l yX2_mostAlike (ws_u yX2_mostAlike cX2_mostAlike 4 (some .int)) ({ frames := 2, cells := 0, slots := 0, locals := 45 }) (va_Pc [.ref a0, .int a1] (cPre (dC, dI) tys ws sz)) (va_Qi (fun (r : Int32) (w : va_W) => 0 ≤ r.toInt ∧ r.toInt ≤ 2147483647 ∧ Ty κ tys B w ∧ Sm [] [] κ ws w) (fun w t => cPost (dC, dI) tys w (va_A ws sz) t) (va_A ws sz)) 0 0 (va_A ws sz) := by
  refine Met.ofW (cc := cX2_mostAlike) (maxL := 4) (ret := (some .int)) (by decide) rfl ?_
  intro p e s m args below meth c s₁ B0 hml hv
  obtain ⟨rfl, hsz, hP, hK, hD0, hE⟩ := hv
  have hx := B0.exec
  have hb := B0.bytes
  have hr := B0.returns
  have hts0 := atoms_spec (ws := ws_u yX2_mostAlike cX2_mostAlike 4 (some .int)) B0.pre
  have hts : ∀ w ∈ gT, w.before _ s = true := fun w h => hts0 w (List.mem_cons_of_mem _ h)
  have hown : s.vm.findClass RX2 = some m.cls := findClass_of_methodNamed B0.named
  have hlocks := B0.notSynchronized
  subst hsz
  have hD := hD0.self (sz := s.heap.size)
  generalize hAe : va_A ws s.heap.size = A at hD ⊢
  have hA : ∀ q : Nat, s.heap.size ≤ q → A q := fun q h => by rw [← hAe]; exact Or.inr h
  have hw : tW (dC, dI) tys κ B A s ws s.heap [] := ⟨hK, hP, hD, va_S.rf, hT⟩
  have hM : Sm [] [] κ ws ws := Sm.rf
  clear hP hK hD hD0 hts0
  have hl := lv_entry ([.ref a0, .int a1]) (n := 4) (Nat.le_of_ble_eq_true rfl)
  rw [lg_entry_eq]
  generalize (lg_sl ([.ref a0, .int a1]) ++ List.replicate (4 - (lg_sl ([.ref a0, .int a1])).length) Slot.unset).toArray = ls at hl ⊢
  have hl : lv_has ls 4 [(0, .ref a0), (1, .int a1)] := hl
  refine t_start (fun QQ hQ => ?_)
  refine lv_iconst (v := 0) hx hb dX2_mostAlike_0 (by decide) ?_
  refine lv_istore_n (lv' := [(2, .int 0), (0, .ref a0), (1, .int a1)]) hx hb dX2_mostAlike_1 rfl hl (by decide) rfl (fun ls hl => ?_)
  refine lv_iconst (v := 0) hx hb dX2_mostAlike_2 (by decide) ?_
  refine lv_istore_n (lv' := [(3, .int 0), (2, .int 0), (0, .ref a0), (1, .int a1)]) hx hb dX2_mostAlike_3 rfl hl (by decide) rfl (fun ls hl => ?_)
  have J4 : ∀ (n : Nat) (H : Heap) (locs : List Loc) (ls : Array Slot), (∃ (w4 : va_W) (p4_l2 : Int32) (p4_l3 : Int32), tW (dC, dI) tys κ B A s w4 H locs ∧ Sm [] [] κ ws w4 ∧ 0 ≤ p4_l2.toInt ∧ p4_l2.toInt ≤ 2147483647 ∧ 0 ≤ p4_l3.toInt ∧ p4_l3.toInt ≤ 7 ∧ lv_has ls 4 [(0, .ref a0), (1, .int a1), (2, .int p4_l2), (3, .int p4_l3)] ∧ (7 - p4_l3.toInt).toNat = n) → W p l e (headSpec (ws_u yX2_mostAlike cX2_mostAlike 4 (some .int)) ({ frames := 2, cells := 0, slots := 0, locals := 45 })).room s m ([.ref a0, .int a1] : List Value).toArray below meth c H locs 0 0 QQ (F0 m 4 ls []) := by
    refine loopT _ ?_
    intro n_4 H locs ls hI ih_4
    obtain ⟨w4, p4_l2, p4_l3, hw, hM, l_p4_l2, h_p4_l2, l_p4_l3, h_p4_l3, hl, hn_4⟩ := hI
    refine lv_iload_n hx hb dX2_mostAlike_4 rfl (lv_at hl 3 rfl) ?_
    refine lv_bipush (v := 7) hx hb dX2_mostAlike_5 (by decide) ?_
    refine lv_icmp_ge (tgt := 35) hx hb dX2_mostAlike_7 (by decide) (fun c_7 => ?_) (fun c_7 => ?_)
    · simp only [fa_lt, fa_le, fa_eq, li_7] at c_7
      refine lv_iload_n hx hb dX2_mostAlike_35 rfl (lv_at hl 2 rfl) ?_
      rw [hQ]
      refine W.widen (k := 0) (n := 0) (Nat.le_refl _) (Nat.le_refl _) ?_
      exact W.iret (v := p4_l2) hx hb hr (fun t ht hW => ⟨⟨p4_l2, w4, rfl, ⟨(by omega), (by omega), hw.2.2.2.2, hM⟩, by rw [ht]; exact hw.2.1, va_K.moved hW.alike hw.1, hw.2.2.1⟩, hw.2.2.2.1.F ht⟩) hw.2.2.2.1.2.2 dX2_mostAlike_36
    · simp only [fa_lt, fa_le, fa_eq, li_7] at c_7
      refine lv_aload_n hx hb dX2_mostAlike_10 rfl (lv_at hl 0 rfl) ?_
      refine lv_iload_n hx hb dX2_mostAlike_11 rfl (lv_at hl 3 rfl) ?_
      refine t_calli (va_runV (As := [.int p4_l3]) (rest := []) ⟨hx, hb, hml, hown, hts⟩ (t_X2_isFitting l dC dI tys κ B w4 hw.2.2.2.2 a0 k_a0 p4_l3 (by omega) (by omega) H.size) (cwV 1 hts (gUV tw_1041 tw_1043 ts_2_11 tw_12 tw_1044) rfl rfl rfl (by decide +kernel) ⟨(Nat.le_of_ble_eq_true rfl), (Nat.le_of_ble_eq_true rfl)⟩) ⟨cPre.blind, t_recv hw (ci := 2) k_a0 rfl rfl, cPre.use hw.2.1 hw.1 hw.2.2.1 hE⟩ rfl rfl hl.1 rfl (lv_room (Nat.le_of_ble_eq_true rfl)) dX2_mostAlike_12 ⟨(Nat.le_of_ble_eq_true rfl), (Nat.le_of_ble_eq_true rfl)⟩) hw hA (fun _ _ h => h.2.2.1) (fun v12 w_1 H locs hp hw => ?_)
      obtain ⟨l_v12, h_v12, _, hm⟩ := hp
      have hM := hM.trans hm (by decide) (by decide)
      have J29 : ∀ (H : Heap) (locs : List Loc) (ls : Array Slot) (w29 : va_W) (p29_l2 : Int32), tW (dC, dI) tys κ B A s w29 H locs → Sm [] [] κ ws w29 → 0 ≤ p29_l2.toInt → p29_l2.toInt ≤ 2147483647 → lv_has ls 4 [(0, .ref a0), (1, .int a1), (2, .int p29_l2), (3, .int p4_l3)] → W p l e (headSpec (ws_u yX2_mostAlike cX2_mostAlike 4 (some .int)) ({ frames := 2, cells := 0, slots := 0, locals := 45 })).room s m ([.ref a0, .int a1] : List Value).toArray below meth c H locs 0 0 QQ (F0 m 29 ls []) := by
        intro H locs ls w29 p29_l2 hw hM l_p29_l2 h_p29_l2 hl
        obtain ⟨v29, e_v29⟩ : ∃ y : Int32, y = p4_l3 + 1 := ⟨_, rfl⟩
        refine lv_iinc (v := v29) (lv' := [(3, .int v29), (0, .ref a0), (1, .int a1), (2, .int p29_l2)]) hx hb dX2_mostAlike_29 hl (k := 3) rfl e_v29.symm (by decide) rfl (fun ls hl => ?_)
        have e_v29 : v29.toInt = p4_l3.toInt + 1 := ad_i e_v29 rfl li_1 (by omega) (by omega)
        refine lv_goto (tgt := 4) hx hb dX2_mostAlike_32 (by decide) ?_
        exact ih_4 _ _ _ _ (by omega) ⟨w29, p29_l2, v29, hw, hM, (by omega), (by omega), (by omega), (by omega), (lv_sub hl [1, 2, 3, 0] rfl), rfl⟩
      refine lv_if_eq (tgt := 29) hx hb dX2_mostAlike_15 (by decide) (fun c_15 => ?_) (fun c_15 => ?_)
      · simp only [fa_lt, fa_le, fa_eq, li_0] at c_15
        exact J29 _ _ _ w_1 p4_l2 hw hM (by omega) (by omega) (lv_sub hl [0, 1, 2, 3] rfl)
      · simp only [fa_lt, fa_le, fa_eq, li_0] at c_15
        refine lv_iload_n hx hb dX2_mostAlike_18 rfl (lv_at hl 2 rfl) ?_
        refine lv_aload_n hx hb dX2_mostAlike_19 rfl (lv_at hl 0 rfl) ?_
        refine lv_iload_n hx hb dX2_mostAlike_20 rfl (lv_at hl 3 rfl) ?_
        refine lv_iload_n hx hb dX2_mostAlike_21 rfl (lv_at hl 1 rfl) ?_
        refine t_calli (va_runV (As := [.int p4_l3, .int a1]) (rest := [.int p4_l2]) ⟨hx, hb, hml, hown, hts⟩ (t_X2_countAlike l dC dI tys κ B w_1 hw.2.2.2.2 a0 k_a0 p4_l3 (by omega) (by omega) a1 (by omega) (by omega) H.size) (cwV 2 hts (gUV tw_1057 tw_1059 ts_2_12 tw_12 tw_1060) rfl rfl rfl (by decide +kernel) ⟨(Nat.le_of_ble_eq_true rfl), (Nat.le_of_ble_eq_true rfl)⟩) ⟨cPre.blind, t_recv hw (ci := 2) k_a0 rfl rfl, cPre.use hw.2.1 hw.1 hw.2.2.1 hE⟩ rfl rfl hl.1 rfl (lv_room (Nat.le_of_ble_eq_true rfl)) dX2_mostAlike_22 ⟨(Nat.le_of_ble_eq_true rfl), (Nat.le_of_ble_eq_true rfl)⟩) hw hA (fun _ _ h => h.1) (fun v22 w_2 H locs hp hw => ?_)
        obtain ⟨_, hm⟩ := hp
        have l_v22 := i32_lo v22
        have h_v22 := i32_hi v22
        have hM := hM.trans hm (by decide) (by decide)
        refine va_mmax hx hb (hml.trans hl.1.symm) hown (hts _ tw_1061) (hts _ tw_831) (hts _ tw_19) (hts _ tw_832) (Nat.le_of_ble_eq_true rfl) (Nat.le_of_ble_eq_true rfl) (Nat.le_of_ble_eq_true rfl) (Nat.le_of_ble_eq_true rfl) dX2_mostAlike_25 ?_
        refine lv_topi (fun v25 e_v25 => ?_)
        have g_v25 := mx_i e_v25 rfl rfl
        refine lv_istore_n (lv' := [(2, .int v25), (0, .ref a0), (1, .int a1), (3, .int p4_l3)]) hx hb dX2_mostAlike_28 rfl hl (by decide) rfl (fun ls hl => ?_)
        exact J29 _ _ _ w_2 v25 hw hM (by omega) (by omega) (lv_sub hl [1, 2, 0, 3] rfl)
  exact J4 _ _ _ _ ⟨ws, 0, 0, hw, hM, (by decide), (by decide), (by decide), (by decide), (lv_sub hl [2, 3, 1, 0] rfl), rfl⟩
set_option maxHeartbeats 4000000 in
set_option maxRecDepth 100000 in
theorem t_X2_bestDay (l : Launch) (dC : Nat → ClassId) (dI : Nat → Nat → Nat) (tys : List (ClassId × FieldType)) (κ : tK) (B : Nat) (ws : va_W) (hT : Ty κ tys B ws) (a0 : Nat) (k_a0 : κ a0 = some 2) (sz : Nat) : Met l yX2_bestDay (ws_u yX2_bestDay cX2_bestDay 5 (some .int)) ({ frames := 3, cells := 0, slots := 0, locals := 68 }) (va_Pc [.ref a0] (cPre (dC, dI) tys ws sz)) (va_Qi (fun (r : Int32) (w : va_W) => 0 ≤ r.toInt ∧ r.toInt ≤ 60 ∧ Ty κ tys B w ∧ Sm [] [] κ ws w) (fun w t => cPost (dC, dI) tys w (va_A ws sz) t) (va_A ws sz)) 0 0 (va_A ws sz) := by
  refine Met.ofW (cc := cX2_bestDay) (maxL := 5) (ret := (some .int)) (by decide) rfl ?_
  intro p e s m args below meth c s₁ B0 hml hv
  obtain ⟨rfl, hsz, hP, hK, hD0, hE⟩ := hv
  have hx := B0.exec
  have hb := B0.bytes
  have hr := B0.returns
  have hts0 := atoms_spec (ws := ws_u yX2_bestDay cX2_bestDay 5 (some .int)) B0.pre
  have hts : ∀ w ∈ gT, w.before _ s = true := fun w h => hts0 w (List.mem_cons_of_mem _ h)
  have hown : s.vm.findClass RX2 = some m.cls := findClass_of_methodNamed B0.named
  have hlocks := B0.notSynchronized
  subst hsz
  have hD := hD0.self (sz := s.heap.size)
  generalize hAe : va_A ws s.heap.size = A at hD ⊢
  have hA : ∀ q : Nat, s.heap.size ≤ q → A q := fun q h => by rw [← hAe]; exact Or.inr h
  have hw : tW (dC, dI) tys κ B A s ws s.heap [] := ⟨hK, hP, hD, va_S.rf, hT⟩
  have hM : Sm [] [] κ ws ws := Sm.rf
  clear hP hK hD hD0 hts0
  have hl := lv_entry ([.ref a0]) (n := 5) (Nat.le_of_ble_eq_true rfl)
  rw [lg_entry_eq]
  generalize (lg_sl ([.ref a0]) ++ List.replicate (5 - (lg_sl ([.ref a0])).length) Slot.unset).toArray = ls at hl ⊢
  have hl : lv_has ls 5 [(0, .ref a0)] := hl
  refine t_start (fun QQ hQ => ?_)
  refine lv_iconst (v := 0) hx hb dX2_bestDay_0 (by decide) ?_
  refine lv_istore_n (lv' := [(1, .int 0), (0, .ref a0)]) hx hb dX2_bestDay_1 rfl hl (by decide) rfl (fun ls hl => ?_)
  refine lv_aload_n hx hb dX2_bestDay_2 rfl (lv_at hl 1 rfl) ?_
  refine lv_iconst (v := 0) hx hb dX2_bestDay_3 (by decide) ?_
  refine t_calli (va_runV (As := [.int 0]) (rest := []) ⟨hx, hb, hml, hown, hts⟩ (t_X2_mostAlike l dC dI tys κ B ws hw.2.2.2.2 a0 k_a0 0 (by decide) (by decide) s.heap.size) (cwV 1 hts (gUV tw_1053 tw_1054 tw_1055 tw_12 tw_1056) rfl rfl rfl (by decide +kernel) ⟨(Nat.le_of_ble_eq_true rfl), (Nat.le_of_ble_eq_true rfl)⟩) ⟨cPre.blind, t_recv hw (ci := 2) k_a0 rfl rfl, cPre.use hw.2.1 hw.1 hw.2.2.1 hE⟩ rfl rfl hl.1 rfl (lv_room (Nat.le_of_ble_eq_true rfl)) dX2_bestDay_4 ⟨(Nat.le_of_ble_eq_true rfl), (Nat.le_of_ble_eq_true rfl)⟩) hw hA (fun _ _ h => h.2.2.1) (fun v4 w_1 H locs hp hw => ?_)
  obtain ⟨l_v4, h_v4, _, hm⟩ := hp
  have hM := hM.trans hm (by decide) (by decide)
  refine lv_istore_n (lv' := [(2, .int v4), (1, .int 0), (0, .ref a0)]) hx hb dX2_bestDay_7 rfl hl (by decide) rfl (fun ls hl => ?_)
  refine lv_iconst (v := 1) hx hb dX2_bestDay_8 (by decide) ?_
  refine lv_istore_n (lv' := [(3, .int 1), (2, .int v4), (1, .int 0), (0, .ref a0)]) hx hb dX2_bestDay_9 rfl hl (by decide) rfl (fun ls hl => ?_)
  have J10 : ∀ (n : Nat) (H : Heap) (locs : List Loc) (ls : Array Slot), (∃ (w10 : va_W) (p10_l1 : Int32) (p10_l2 : Int32) (p10_l3 : Int32), tW (dC, dI) tys κ B A s w10 H locs ∧ Sm [] [] κ ws w10 ∧ 0 ≤ p10_l1.toInt ∧ p10_l1.toInt ≤ 60 ∧ 0 ≤ p10_l2.toInt ∧ p10_l2.toInt ≤ 2147483647 ∧ 1 ≤ p10_l3.toInt ∧ p10_l3.toInt ≤ 61 ∧ lv_has ls 5 [(0, .ref a0), (1, .int p10_l1), (2, .int p10_l2), (3, .int p10_l3)] ∧ (61 - p10_l3.toInt).toNat = n) → W p l e (headSpec (ws_u yX2_bestDay cX2_bestDay 5 (some .int)) ({ frames := 3, cells := 0, slots := 0, locals := 68 })).room s m ([.ref a0] : List Value).toArray below meth c H locs 0 0 QQ (F0 m 10 ls []) := by
    refine loopT _ ?_
    intro n_10 H locs ls hI ih_10
    obtain ⟨w10, p10_l1, p10_l2, p10_l3, hw, hM, l_p10_l1, h_p10_l1, l_p10_l2, h_p10_l2, l_p10_l3, h_p10_l3, hl, hn_10⟩ := hI
    refine lv_iload_n hx hb dX2_bestDay_10 rfl (lv_at hl 3 rfl) ?_
    refine lv_bipush (v := 61) hx hb dX2_bestDay_11 (by decide) ?_
    refine lv_icmp_ge (tgt := 40) hx hb dX2_bestDay_13 (by decide) (fun c_13 => ?_) (fun c_13 => ?_)
    · simp only [fa_lt, fa_le, fa_eq, li_61] at c_13
      refine lv_iload_n hx hb dX2_bestDay_40 rfl (lv_at hl 1 rfl) ?_
      rw [hQ]
      refine W.widen (k := 0) (n := 0) (Nat.le_refl _) (Nat.le_refl _) ?_
      exact W.iret (v := p10_l1) hx hb hr (fun t ht hW => ⟨⟨p10_l1, w10, rfl, ⟨(by omega), (by omega), hw.2.2.2.2, hM⟩, by rw [ht]; exact hw.2.1, va_K.moved hW.alike hw.1, hw.2.2.1⟩, hw.2.2.2.1.F ht⟩) hw.2.2.2.1.2.2 dX2_bestDay_41
    · simp only [fa_lt, fa_le, fa_eq, li_61] at c_13
      refine lv_aload_n hx hb dX2_bestDay_16 rfl (lv_at hl 0 rfl) ?_
      refine lv_iload_n hx hb dX2_bestDay_17 rfl (lv_at hl 3 rfl) ?_
      refine t_calli (va_runV (As := [.int p10_l3]) (rest := []) ⟨hx, hb, hml, hown, hts⟩ (t_X2_mostAlike l dC dI tys κ B w10 hw.2.2.2.2 a0 k_a0 p10_l3 (by omega) (by omega) H.size) (cwV 1 hts (gUV tw_1053 tw_1054 tw_1055 tw_12 tw_1056) rfl rfl rfl (by decide +kernel) ⟨(Nat.le_of_ble_eq_true rfl), (Nat.le_of_ble_eq_true rfl)⟩) ⟨cPre.blind, t_recv hw (ci := 2) k_a0 rfl rfl, cPre.use hw.2.1 hw.1 hw.2.2.1 hE⟩ rfl rfl hl.1 rfl (lv_room (Nat.le_of_ble_eq_true rfl)) dX2_bestDay_18 ⟨(Nat.le_of_ble_eq_true rfl), (Nat.le_of_ble_eq_true rfl)⟩) hw hA (fun _ _ h => h.2.2.1) (fun v18 w_2 H locs hp hw => ?_)
      obtain ⟨l_v18, h_v18, _, hm⟩ := hp
      have hM := hM.trans hm (by decide) (by decide)
      refine lv_istore (lv' := [(4, .int v18), (0, .ref a0), (1, .int p10_l1), (2, .int p10_l2), (3, .int p10_l3)]) hx hb dX2_bestDay_21 hl (by decide) rfl (fun ls hl => ?_)
      refine lv_iload hx hb dX2_bestDay_23 (lv_at hl 0 rfl) ?_
      refine lv_iload_n hx hb dX2_bestDay_25 rfl (lv_at hl 3 rfl) ?_
      have J34 : ∀ (H : Heap) (locs : List Loc) (ls : Array Slot) (w34 : va_W) (p34_l1 : Int32) (p34_l2 : Int32), tW (dC, dI) tys κ B A s w34 H locs → Sm [] [] κ ws w34 → 0 ≤ p34_l1.toInt → p34_l1.toInt ≤ 60 → 0 ≤ p34_l2.toInt → p34_l2.toInt ≤ 2147483647 → lv_has ls 5 [(0, .ref a0), (1, .int p34_l1), (2, .int p34_l2), (3, .int p10_l3), (4, .int v18)] → W p l e (headSpec (ws_u yX2_bestDay cX2_bestDay 5 (some .int)) ({ frames := 3, cells := 0, slots := 0, locals := 68 })).room s m ([.ref a0] : List Value).toArray below meth c H locs 0 0 QQ (F0 m 34 ls []) := by
        intro H locs ls w34 p34_l1 p34_l2 hw hM l_p34_l1 h_p34_l1 l_p34_l2 h_p34_l2 hl
        obtain ⟨v34, e_v34⟩ : ∃ y : Int32, y = p10_l3 + 1 := ⟨_, rfl⟩
        refine lv_iinc (v := v34) (lv' := [(3, .int v34), (0, .ref a0), (1, .int p34_l1), (2, .int p34_l2), (4, .int v18)]) hx hb dX2_bestDay_34 hl (k := 3) rfl e_v34.symm (by decide) rfl (fun ls hl => ?_)
        have e_v34 : v34.toInt = p10_l3.toInt + 1 := ad_i e_v34 rfl li_1 (by omega) (by omega)
        refine lv_goto (tgt := 10) hx hb dX2_bestDay_37 (by decide) ?_
        exact ih_10 _ _ _ _ (by omega) ⟨w34, p34_l1, p34_l2, v34, hw, hM, (by omega), (by omega), (by omega), (by omega), (by omega), (by omega), (lv_sub hl [1, 2, 3, 0] rfl), rfl⟩
      refine lv_icmp_ge (tgt := 34) hx hb dX2_bestDay_26 (by decide) (fun c_26 => ?_) (fun c_26 => ?_)
      · simp only [fa_lt, fa_le, fa_eq] at c_26
        exact J34 _ _ _ w_2 p10_l1 p10_l2 hw hM (by omega) (by omega) (by omega) (by omega) (lv_sub hl [1, 2, 3, 4, 0] rfl)
      · simp only [fa_lt, fa_le, fa_eq] at c_26
        refine lv_iload_n hx hb dX2_bestDay_29 rfl (lv_at hl 4 rfl) ?_
        refine lv_istore_n (lv' := [(1, .int p10_l3), (4, .int v18), (0, .ref a0), (2, .int p10_l2), (3, .int p10_l3)]) hx hb dX2_bestDay_30 rfl hl (by decide) rfl (fun ls hl => ?_)
        refine lv_iload hx hb dX2_bestDay_31 (lv_at hl 1 rfl) ?_
        refine lv_istore_n (lv' := [(2, .int v18), (1, .int p10_l3), (4, .int v18), (0, .ref a0), (3, .int p10_l3)]) hx hb dX2_bestDay_33 rfl hl (by decide) rfl (fun ls hl => ?_)
        exact J34 _ _ _ w_2 p10_l3 v18 hw hM (by omega) (by omega) (by omega) (by omega) (lv_sub hl [3, 1, 0, 4, 2] rfl)
  exact J10 _ _ _ _ ⟨w_1, 0, v4, 1, hw, hM, (by decide), (by decide), (by omega), (by omega), (by decide), (by decide), (lv_sub hl [3, 2, 1, 0] rfl), rfl⟩
