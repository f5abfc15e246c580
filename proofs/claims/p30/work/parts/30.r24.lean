theorem ts_5_10 : Cond.selects "BoyBishopModel" ⟨"BoyBishopModel", "canonOf", "(II)I"⟩ ⟨"BoyBishopModel", "canonOf", "(II)I"⟩ ∈ gT := gT_in (List.mem_append_left _ (List.mem_map.mpr ⟨(⟨"BoyBishopModel", "canonOf", "(II)I"⟩, 38), (List.mem_append_right _ (List.mem_append_right _ (List.mem_append_right _ (List.mem_append_right _ (List.mem_append_right _ (List.mem_append_left _ (List.mem_of_getElem? (i := 10) rfl))))))), rfl⟩)) rfl
theorem ts_5_7 : Cond.selects "BoyBishopModel" ⟨"BoyBishopModel", "isBoy", "(I)Z"⟩ ⟨"BoyBishopModel", "isBoy", "(I)Z"⟩ ∈ gT := gT_in (List.mem_append_left _ (List.mem_map.mpr ⟨(⟨"BoyBishopModel", "isBoy", "(I)Z"⟩, 38), (List.mem_append_right _ (List.mem_append_right _ (List.mem_append_right _ (List.mem_append_right _ (List.mem_append_right _ (List.mem_append_left _ (List.mem_of_getElem? (i := 7) rfl))))))), rfl⟩)) rfl
theorem ts_5_8 : Cond.selects "BoyBishopModel" ⟨"BoyBishopModel", "boyOf", "(II)I"⟩ ⟨"BoyBishopModel", "boyOf", "(II)I"⟩ ∈ gT := gT_in (List.mem_append_left _ (List.mem_map.mpr ⟨(⟨"BoyBishopModel", "boyOf", "(II)I"⟩, 38), (List.mem_append_right _ (List.mem_append_right _ (List.mem_append_right _ (List.mem_append_right _ (List.mem_append_right _ (List.mem_append_left _ (List.mem_of_getElem? (i := 8) rfl))))))), rfl⟩)) rfl
theorem ts_5_9 : Cond.selects "BoyBishopModel" ⟨"BoyBishopModel", "isCanon", "(I)Z"⟩ ⟨"BoyBishopModel", "isCanon", "(I)Z"⟩ ∈ gT := gT_in (List.mem_append_left _ (List.mem_map.mpr ⟨(⟨"BoyBishopModel", "isCanon", "(I)Z"⟩, 38), (List.mem_append_right _ (List.mem_append_right _ (List.mem_append_right _ (List.mem_append_right _ (List.mem_append_right _ (List.mem_append_left _ (List.mem_of_getElem? (i := 9) rfl))))))), rfl⟩)) rfl
theorem ts_6_15 : Cond.selects "BoyBishopModel" ⟨"BoyBishopModel", "isAlive", "(I)Z"⟩ ⟨"BoyBishopModel", "isAlive", "(I)Z"⟩ ∈ gT := gT_in (List.mem_append_left _ (List.mem_map.mpr ⟨(⟨"BoyBishopModel", "isAlive", "(I)Z"⟩, 38), (List.mem_append_right _ (List.mem_append_right _ (List.mem_append_right _ (List.mem_append_right _ (List.mem_append_right _ (List.mem_append_right _ (List.mem_append_left _ (List.mem_of_getElem? (i := 15) rfl)))))))), rfl⟩)) rfl
theorem ts_6_3 : Cond.selects "BoyBishopModel" ⟨"BoyBishopModel", "isSound", "(I)Z"⟩ ⟨"BoyBishopModel", "isSound", "(I)Z"⟩ ∈ gT := gT_in (List.mem_append_left _ (List.mem_map.mpr ⟨(⟨"BoyBishopModel", "isSound", "(I)Z"⟩, 38), (List.mem_append_right _ (List.mem_append_right _ (List.mem_append_right _ (List.mem_append_right _ (List.mem_append_right _ (List.mem_append_right _ (List.mem_append_left _ (List.mem_of_getElem? (i := 3) rfl)))))))), rfl⟩)) rfl
theorem tw_1145 : (Jvm.Cond.fieldLink "BoyBishopModel" (39 : Nat) "BoyBishopModel" "said" "[I") ∈ gT := gT_in (List.mem_append_right _ (List.mem_append_right _ (List.mem_append_right _ (List.mem_append_right _ (List.mem_append_right _ (List.mem_append_left _ (List.mem_of_getElem? (i := 185) rfl))))))) rfl
theorem tw_1152 : (Jvm.Cond.fieldLink "BoyBishopModel" (52 : Nat) "BoyBishopModel" "kept" "[I") ∈ gT := gT_in (List.mem_append_right _ (List.mem_append_right _ (List.mem_append_right _ (List.mem_append_right _ (List.mem_append_right _ (List.mem_append_left _ (List.mem_of_getElem? (i := 192) rfl))))))) rfl
theorem tw_13 : (Jvm.Cond.initialized "BoyBishopModel") ∈ gT := gT_in (List.mem_append_right _ (List.mem_append_left _ (List.mem_of_getElem? (i := 13) rfl))) rfl
theorem tw_1448 : (Jvm.Cond.methodLink "BoyBishopModel" (301 : Nat) ({ cls := "BoyBishopModel", name := "isBoy", desc := "(I)Z" } : Jvm.MethodName)) ∈ gT := gT_in (List.mem_append_right _ (List.mem_append_right _ (List.mem_append_right _ (List.mem_append_right _ (List.mem_append_right _ (List.mem_append_right _ (List.mem_append_right _ (List.mem_append_left _ (List.mem_of_getElem? (i := 8) rfl))))))))) rfl
theorem tw_1450 : (Jvm.Cond.instanceMethod ({ cls := "BoyBishopModel", name := "isBoy", desc := "(I)Z" } : Jvm.MethodName)) ∈ gT := gT_in (List.mem_append_right _ (List.mem_append_right _ (List.mem_append_right _ (List.mem_append_right _ (List.mem_append_right _ (List.mem_append_right _ (List.mem_append_right _ (List.mem_append_left _ (List.mem_of_getElem? (i := 10) rfl))))))))) rfl
theorem tw_1451 : (Jvm.Cond.code ({ cls := "BoyBishopModel", name := "isBoy", desc := "(I)Z" } : Jvm.MethodName) prog_14_method_52_code (2 : Nat) (Option.some Jvm.ClassFile.FieldType.boolean)) ∈ gT := gT_in (List.mem_append_right _ (List.mem_append_right _ (List.mem_append_right _ (List.mem_append_right _ (List.mem_append_right _ (List.mem_append_right _ (List.mem_append_right _ (List.mem_append_left _ (List.mem_of_getElem? (i := 11) rfl))))))))) rfl
theorem tw_1453 : (Jvm.Cond.methodLink "BoyBishopModel" (304 : Nat) ({ cls := "BoyBishopModel", name := "boyOf", desc := "(II)I" } : Jvm.MethodName)) ∈ gT := gT_in (List.mem_append_right _ (List.mem_append_right _ (List.mem_append_right _ (List.mem_append_right _ (List.mem_append_right _ (List.mem_append_right _ (List.mem_append_right _ (List.mem_append_left _ (List.mem_of_getElem? (i := 13) rfl))))))))) rfl
theorem tw_1455 : (Jvm.Cond.instanceMethod ({ cls := "BoyBishopModel", name := "boyOf", desc := "(II)I" } : Jvm.MethodName)) ∈ gT := gT_in (List.mem_append_right _ (List.mem_append_right _ (List.mem_append_right _ (List.mem_append_right _ (List.mem_append_right _ (List.mem_append_right _ (List.mem_append_right _ (List.mem_append_left _ (List.mem_of_getElem? (i := 15) rfl))))))))) rfl
theorem tw_1456 : (Jvm.Cond.code ({ cls := "BoyBishopModel", name := "boyOf", desc := "(II)I" } : Jvm.MethodName) prog_14_method_55_code (3 : Nat) (Option.some Jvm.ClassFile.FieldType.int)) ∈ gT := gT_in (List.mem_append_right _ (List.mem_append_right _ (List.mem_append_right _ (List.mem_append_right _ (List.mem_append_right _ (List.mem_append_right _ (List.mem_append_right _ (List.mem_append_left _ (List.mem_of_getElem? (i := 16) rfl))))))))) rfl
theorem tw_1465 : (Jvm.Cond.methodLink "BoyBishopModel" (308 : Nat) ({ cls := "BoyBishopModel", name := "isCanon", desc := "(I)Z" } : Jvm.MethodName)) ∈ gT := gT_in (List.mem_append_right _ (List.mem_append_right _ (List.mem_append_right _ (List.mem_append_right _ (List.mem_append_right _ (List.mem_append_right _ (List.mem_append_right _ (List.mem_append_left _ (List.mem_of_getElem? (i := 25) rfl))))))))) rfl
theorem tw_1467 : (Jvm.Cond.instanceMethod ({ cls := "BoyBishopModel", name := "isCanon", desc := "(I)Z" } : Jvm.MethodName)) ∈ gT := gT_in (List.mem_append_right _ (List.mem_append_right _ (List.mem_append_right _ (List.mem_append_right _ (List.mem_append_right _ (List.mem_append_right _ (List.mem_append_right _ (List.mem_append_left _ (List.mem_of_getElem? (i := 27) rfl))))))))) rfl
theorem tw_1468 : (Jvm.Cond.code ({ cls := "BoyBishopModel", name := "isCanon", desc := "(I)Z" } : Jvm.MethodName) prog_14_method_53_code (2 : Nat) (Option.some Jvm.ClassFile.FieldType.boolean)) ∈ gT := gT_in (List.mem_append_right _ (List.mem_append_right _ (List.mem_append_right _ (List.mem_append_right _ (List.mem_append_right _ (List.mem_append_right _ (List.mem_append_right _ (List.mem_append_left _ (List.mem_of_getElem? (i := 28) rfl))))))))) rfl
theorem tw_1469 : (Jvm.Cond.methodLink "BoyBishopModel" (311 : Nat) ({ cls := "BoyBishopModel", name := "canonOf", desc := "(II)I" } : Jvm.MethodName)) ∈ gT := gT_in (List.mem_append_right _ (List.mem_append_right _ (List.mem_append_right _ (List.mem_append_right _ (List.mem_append_right _ (List.mem_append_right _ (List.mem_append_right _ (List.mem_append_left _ (List.mem_of_getElem? (i := 29) rfl))))))))) rfl
theorem tw_1471 : (Jvm.Cond.instanceMethod ({ cls := "BoyBishopModel", name := "canonOf", desc := "(II)I" } : Jvm.MethodName)) ∈ gT := gT_in (List.mem_append_right _ (List.mem_append_right _ (List.mem_append_right _ (List.mem_append_right _ (List.mem_append_right _ (List.mem_append_right _ (List.mem_append_right _ (List.mem_append_left _ (List.mem_of_getElem? (i := 31) rfl))))))))) rfl
theorem tw_1472 : (Jvm.Cond.code ({ cls := "BoyBishopModel", name := "canonOf", desc := "(II)I" } : Jvm.MethodName) prog_14_method_57_code (3 : Nat) (Option.some Jvm.ClassFile.FieldType.int)) ∈ gT := gT_in (List.mem_append_right _ (List.mem_append_right _ (List.mem_append_right _ (List.mem_append_right _ (List.mem_append_right _ (List.mem_append_right _ (List.mem_append_right _ (List.mem_append_left _ (List.mem_of_getElem? (i := 32) rfl))))))))) rfl
theorem tw_1517 : (Jvm.Cond.methodLink "BoyBishopModel" (314 : Nat) ({ cls := "BoyBishopModel", name := "isSound", desc := "(I)Z" } : Jvm.MethodName)) ∈ gT := gT_in (List.mem_append_right _ (List.mem_append_right _ (List.mem_append_right _ (List.mem_append_right _ (List.mem_append_right _ (List.mem_append_right _ (List.mem_append_right _ (List.mem_append_left _ (List.mem_of_getElem? (i := 77) rfl))))))))) rfl
theorem tw_1519 : (Jvm.Cond.instanceMethod ({ cls := "BoyBishopModel", name := "isSound", desc := "(I)Z" } : Jvm.MethodName)) ∈ gT := gT_in (List.mem_append_right _ (List.mem_append_right _ (List.mem_append_right _ (List.mem_append_right _ (List.mem_append_right _ (List.mem_append_right _ (List.mem_append_right _ (List.mem_append_left _ (List.mem_of_getElem? (i := 79) rfl))))))))) rfl
theorem tw_1520 : (Jvm.Cond.code ({ cls := "BoyBishopModel", name := "isSound", desc := "(I)Z" } : Jvm.MethodName) prog_14_method_56_code (2 : Nat) (Option.some Jvm.ClassFile.FieldType.boolean)) ∈ gT := gT_in (List.mem_append_right _ (List.mem_append_right _ (List.mem_append_right _ (List.mem_append_right _ (List.mem_append_right _ (List.mem_append_right _ (List.mem_append_right _ (List.mem_append_left _ (List.mem_of_getElem? (i := 80) rfl))))))))) rfl
theorem tw_1571 : (Jvm.Cond.methodLink "BoyBishopModel" (361 : Nat) ({ cls := "BoyBishopModel", name := "isAlive", desc := "(I)Z" } : Jvm.MethodName)) ∈ gT := gT_in (List.mem_append_right _ (List.mem_append_right _ (List.mem_append_right _ (List.mem_append_right _ (List.mem_append_right _ (List.mem_append_right _ (List.mem_append_right _ (List.mem_append_left _ (List.mem_of_getElem? (i := 131) rfl))))))))) rfl
theorem tw_1573 : (Jvm.Cond.instanceMethod ({ cls := "BoyBishopModel", name := "isAlive", desc := "(I)Z" } : Jvm.MethodName)) ∈ gT := gT_in (List.mem_append_right _ (List.mem_append_right _ (List.mem_append_right _ (List.mem_append_right _ (List.mem_append_right _ (List.mem_append_right _ (List.mem_append_right _ (List.mem_append_left _ (List.mem_of_getElem? (i := 133) rfl))))))))) rfl
theorem tw_1574 : (Jvm.Cond.code ({ cls := "BoyBishopModel", name := "isAlive", desc := "(I)Z" } : Jvm.MethodName) prog_14_method_58_code (2 : Nat) (Option.some Jvm.ClassFile.FieldType.boolean)) ∈ gT := gT_in (List.mem_append_right _ (List.mem_append_right _ (List.mem_append_right _ (List.mem_append_right _ (List.mem_append_right _ (List.mem_append_right _ (List.mem_append_right _ (List.mem_append_left _ (List.mem_of_getElem? (i := 134) rfl))))))))) rfl
theorem dX12_agesAll_0 : decode cX12_agesAll 0 = .ok (.aload_n 0, 1) := by decide +kernel
theorem dX12_agesAll_1 : decode cX12_agesAll 1 = .ok (.getfield 39, 3) := by decide +kernel
theorem dX12_agesAll_4 : decode cX12_agesAll 4 = .ok (.bipush 10, 2) := by decide +kernel
theorem dX12_agesAll_6 : decode cX12_agesAll 6 = .ok (.iaload, 1) := by decide +kernel
theorem dX12_agesAll_7 : decode cX12_agesAll 7 = .ok (.bipush 10, 2) := by decide +kernel
theorem dX12_agesAll_9 : decode cX12_agesAll 9 = .ok (.irem, 1) := by decide +kernel
theorem dX12_agesAll_10 : decode cX12_agesAll 10 = .ok (.bipush 9, 2) := by decide +kernel
theorem dX12_agesAll_12 : decode cX12_agesAll 12 = .ok (.if_icmp .eq 4, 3) := by decide +kernel
theorem dX12_agesAll_15 : decode cX12_agesAll 15 = .ok (.return_, 1) := by decide +kernel
theorem dX12_agesAll_16 : decode cX12_agesAll 16 = .ok (.iconst 0, 1) := by decide +kernel
theorem dX12_agesAll_17 : decode cX12_agesAll 17 = .ok (.istore_n 1, 1) := by decide +kernel
theorem dX12_agesAll_18 : decode cX12_agesAll 18 = .ok (.iload_n 1, 1) := by decide +kernel
theorem dX12_agesAll_19 : decode cX12_agesAll 19 = .ok (.aload_n 0, 1) := by decide +kernel
theorem dX12_agesAll_20 : decode cX12_agesAll 20 = .ok (.getfield 39, 3) := by decide +kernel
theorem dX12_agesAll_23 : decode cX12_agesAll 23 = .ok (.iconst 4, 1) := by decide +kernel
theorem dX12_agesAll_24 : decode cX12_agesAll 24 = .ok (.iaload, 1) := by decide +kernel
theorem dX12_agesAll_25 : decode cX12_agesAll 25 = .ok (.if_icmp .ge 57, 3) := by decide +kernel
theorem dX12_agesAll_28 : decode cX12_agesAll 28 = .ok (.aload_n 0, 1) := by decide +kernel
theorem dX12_agesAll_29 : decode cX12_agesAll 29 = .ok (.iload_n 1, 1) := by decide +kernel
theorem dX12_agesAll_30 : decode cX12_agesAll 30 = .ok (.invokevirtual 361, 3) := by decide +kernel
theorem dX12_agesAll_33 : decode cX12_agesAll 33 = .ok (.ifCond .ne 6, 3) := by decide +kernel
theorem dX12_agesAll_36 : decode cX12_agesAll 36 = .ok (.goto 40, 3) := by decide +kernel
theorem dX12_agesAll_39 : decode cX12_agesAll 39 = .ok (.aload_n 0, 1) := by decide +kernel
theorem dX12_agesAll_40 : decode cX12_agesAll 40 = .ok (.getfield 39, 3) := by decide +kernel
theorem dX12_agesAll_43 : decode cX12_agesAll 43 = .ok (.bipush 40, 2) := by decide +kernel
theorem dX12_agesAll_45 : decode cX12_agesAll 45 = .ok (.iconst 3, 1) := by decide +kernel
theorem dX12_agesAll_46 : decode cX12_agesAll 46 = .ok (.iload_n 1, 1) := by decide +kernel
theorem dX12_agesAll_47 : decode cX12_agesAll 47 = .ok (.imul, 1) := by decide +kernel
theorem dX12_agesAll_48 : decode cX12_agesAll 48 = .ok (.iadd, 1) := by decide +kernel
theorem dX12_agesAll_49 : decode cX12_agesAll 49 = .ok (.dup2, 1) := by decide +kernel
theorem dX12_agesAll_50 : decode cX12_agesAll 50 = .ok (.iaload, 1) := by decide +kernel
theorem dX12_agesAll_51 : decode cX12_agesAll 51 = .ok (.iconst 1, 1) := by decide +kernel
theorem dX12_agesAll_52 : decode cX12_agesAll 52 = .ok (.iadd, 1) := by decide +kernel
theorem dX12_agesAll_53 : decode cX12_agesAll 53 = .ok (.iastore, 1) := by decide +kernel
theorem dX12_agesAll_54 : decode cX12_agesAll 54 = .ok (.aload_n 0, 1) := by decide +kernel
theorem dX12_agesAll_55 : decode cX12_agesAll 55 = .ok (.iload_n 1, 1) := by decide +kernel
theorem dX12_agesAll_56 : decode cX12_agesAll 56 = .ok (.invokevirtual 361, 3) := by decide +kernel
theorem dX12_agesAll_59 : decode cX12_agesAll 59 = .ok (.ifCond .ne 17, 3) := by decide +kernel
theorem dX12_agesAll_62 : decode cX12_agesAll 62 = .ok (.aload_n 0, 1) := by decide +kernel
theorem dX12_agesAll_63 : decode cX12_agesAll 63 = .ok (.getfield 39, 3) := by decide +kernel
theorem dX12_agesAll_66 : decode cX12_agesAll 66 = .ok (.bipush 40, 2) := by decide +kernel
theorem dX12_agesAll_68 : decode cX12_agesAll 68 = .ok (.iconst 3, 1) := by decide +kernel
theorem dX12_agesAll_69 : decode cX12_agesAll 69 = .ok (.iload_n 1, 1) := by decide +kernel
theorem dX12_agesAll_70 : decode cX12_agesAll 70 = .ok (.imul, 1) := by decide +kernel
theorem dX12_agesAll_71 : decode cX12_agesAll 71 = .ok (.iadd, 1) := by decide +kernel
theorem dX12_agesAll_72 : decode cX12_agesAll 72 = .ok (.iconst 1, 1) := by decide +kernel
theorem dX12_agesAll_73 : decode cX12_agesAll 73 = .ok (.iadd, 1) := by decide +kernel
theorem dX12_agesAll_74 : decode cX12_agesAll 74 = .ok (.iconst 1, 1) := by decide +kernel
theorem dX12_agesAll_75 : decode cX12_agesAll 75 = .ok (.iastore, 1) := by decide +kernel
theorem dX12_agesAll_76 : decode cX12_agesAll 76 = .ok (.iinc 1 1, 3) := by decide +kernel
theorem dX12_agesAll_79 : decode cX12_agesAll 79 = .ok (.goto (-61), 3) := by decide +kernel
theorem dX12_agesAll_82 : decode cX12_agesAll 82 = .ok (.return_, 1) := by decide +kernel
theorem dX12_atMost_0 : decode cX12_atMost 0 = .ok (.iload_n 0, 1) := by decide +kernel
theorem dX12_atMost_1 : decode cX12_atMost 1 = .ok (.iload_n 1, 1) := by decide +kernel
theorem dX12_atMost_2 : decode cX12_atMost 2 = .ok (.if_icmp .le 7, 3) := by decide +kernel
theorem dX12_atMost_5 : decode cX12_atMost 5 = .ok (.iload_n 1, 1) := by decide +kernel
theorem dX12_atMost_6 : decode cX12_atMost 6 = .ok (.goto 4, 3) := by decide +kernel
theorem dX12_atMost_9 : decode cX12_atMost 9 = .ok (.iload_n 0, 1) := by decide +kernel
theorem dX12_atMost_10 : decode cX12_atMost 10 = .ok (.ireturn, 1) := by decide +kernel
theorem dX12_boyOf_0 : decode cX12_boyOf 0 = .ok (.aload_n 0, 1) := by decide +kernel
theorem dX12_boyOf_1 : decode cX12_boyOf 1 = .ok (.getfield 39, 3) := by decide +kernel
theorem dX12_boyOf_4 : decode cX12_boyOf 4 = .ok (.bipush 16, 2) := by decide +kernel
theorem dX12_boyOf_6 : decode cX12_boyOf 6 = .ok (.iconst 3, 1) := by decide +kernel
theorem dX12_boyOf_7 : decode cX12_boyOf 7 = .ok (.iload_n 1, 1) := by decide +kernel
theorem dX12_boyOf_8 : decode cX12_boyOf 8 = .ok (.imul, 1) := by decide +kernel
theorem dX12_boyOf_9 : decode cX12_boyOf 9 = .ok (.iadd, 1) := by decide +kernel
theorem dX12_boyOf_10 : decode cX12_boyOf 10 = .ok (.iload_n 2, 1) := by decide +kernel
theorem dX12_boyOf_11 : decode cX12_boyOf 11 = .ok (.iadd, 1) := by decide +kernel
theorem dX12_boyOf_12 : decode cX12_boyOf 12 = .ok (.iaload, 1) := by decide +kernel
theorem dX12_boyOf_13 : decode cX12_boyOf 13 = .ok (.ireturn, 1) := by decide +kernel
theorem dX12_breaksVoice_0 : decode cX12_breaksVoice 0 = .ok (.aload_n 0, 1) := by decide +kernel
theorem dX12_breaksVoice_1 : decode cX12_breaksVoice 1 = .ok (.getfield 39, 3) := by decide +kernel
theorem dX12_breaksVoice_4 : decode cX12_breaksVoice 4 = .ok (.bipush 16, 2) := by decide +kernel
theorem dX12_breaksVoice_6 : decode cX12_breaksVoice 6 = .ok (.iconst 3, 1) := by decide +kernel
theorem dX12_breaksVoice_7 : decode cX12_breaksVoice 7 = .ok (.iload_n 1, 1) := by decide +kernel
theorem dX12_breaksVoice_8 : decode cX12_breaksVoice 8 = .ok (.imul, 1) := by decide +kernel
theorem dX12_breaksVoice_9 : decode cX12_breaksVoice 9 = .ok (.iadd, 1) := by decide +kernel
theorem dX12_breaksVoice_10 : decode cX12_breaksVoice 10 = .ok (.iconst 0, 1) := by decide +kernel
theorem dX12_breaksVoice_11 : decode cX12_breaksVoice 11 = .ok (.iastore, 1) := by decide +kernel
theorem dX12_breaksVoice_12 : decode cX12_breaksVoice 12 = .ok (.return_, 1) := by decide +kernel
theorem dX12_canonOf_0 : decode cX12_canonOf 0 = .ok (.aload_n 0, 1) := by decide +kernel
theorem dX12_canonOf_1 : decode cX12_canonOf 1 = .ok (.getfield 39, 3) := by decide +kernel
theorem dX12_canonOf_4 : decode cX12_canonOf 4 = .ok (.bipush 40, 2) := by decide +kernel
theorem dX12_canonOf_6 : decode cX12_canonOf 6 = .ok (.iconst 3, 1) := by decide +kernel
theorem dX12_canonOf_7 : decode cX12_canonOf 7 = .ok (.iload_n 1, 1) := by decide +kernel
theorem dX12_canonOf_8 : decode cX12_canonOf 8 = .ok (.imul, 1) := by decide +kernel
theorem dX12_canonOf_9 : decode cX12_canonOf 9 = .ok (.iadd, 1) := by decide +kernel
theorem dX12_canonOf_10 : decode cX12_canonOf 10 = .ok (.iload_n 2, 1) := by decide +kernel
theorem dX12_canonOf_11 : decode cX12_canonOf 11 = .ok (.iadd, 1) := by decide +kernel
theorem dX12_canonOf_12 : decode cX12_canonOf 12 = .ok (.iaload, 1) := by decide +kernel
theorem dX12_canonOf_13 : decode cX12_canonOf 13 = .ok (.ireturn, 1) := by decide +kernel
theorem dX12_in_0 : decode cX12_in 0 = .ok (.lload_n 0, 1) := by decide +kernel
theorem dX12_in_1 : decode cX12_in 1 = .ok (.lload_n 2, 1) := by decide +kernel
theorem dX12_in_2 : decode cX12_in 2 = .ok (.lcmp, 1) := by decide +kernel
theorem dX12_in_3 : decode cX12_in 3 = .ok (.ifCond .lt 14, 3) := by decide +kernel
theorem dX12_in_6 : decode cX12_in 6 = .ok (.lload_n 0, 1) := by decide +kernel
theorem dX12_in_7 : decode cX12_in 7 = .ok (.lload 4, 2) := by decide +kernel
theorem dX12_in_9 : decode cX12_in 9 = .ok (.lcmp, 1) := by decide +kernel
theorem dX12_in_10 : decode cX12_in 10 = .ok (.ifCond .gt 7, 3) := by decide +kernel
theorem dX12_in_13 : decode cX12_in 13 = .ok (.iconst 1, 1) := by decide +kernel
theorem dX12_in_14 : decode cX12_in 14 = .ok (.goto 4, 3) := by decide +kernel
theorem dX12_in_17 : decode cX12_in 17 = .ok (.iconst 0, 1) := by decide +kernel
theorem dX12_in_18 : decode cX12_in 18 = .ok (.ireturn, 1) := by decide +kernel
theorem dX12_isAlive_0 : decode cX12_isAlive 0 = .ok (.aload_n 0, 1) := by decide +kernel
theorem dX12_isAlive_1 : decode cX12_isAlive 1 = .ok (.iload_n 1, 1) := by decide +kernel
theorem dX12_isAlive_2 : decode cX12_isAlive 2 = .ok (.invokevirtual 308, 3) := by decide +kernel
theorem dX12_isAlive_5 : decode cX12_isAlive 5 = .ok (.ifCond .eq 18, 3) := by decide +kernel
theorem dX12_isAlive_8 : decode cX12_isAlive 8 = .ok (.aload_n 0, 1) := by decide +kernel
theorem dX12_isAlive_9 : decode cX12_isAlive 9 = .ok (.iload_n 1, 1) := by decide +kernel
theorem dX12_isAlive_10 : decode cX12_isAlive 10 = .ok (.iconst 0, 1) := by decide +kernel
theorem dX12_isAlive_11 : decode cX12_isAlive 11 = .ok (.invokevirtual 311, 3) := by decide +kernel
theorem dX12_isAlive_14 : decode cX12_isAlive 14 = .ok (.bipush 100, 2) := by decide +kernel
theorem dX12_isAlive_16 : decode cX12_isAlive 16 = .ok (.if_icmp .ge 7, 3) := by decide +kernel
theorem dX12_isAlive_19 : decode cX12_isAlive 19 = .ok (.iconst 1, 1) := by decide +kernel
theorem dX12_isAlive_20 : decode cX12_isAlive 20 = .ok (.goto 4, 3) := by decide +kernel
theorem dX12_isAlive_23 : decode cX12_isAlive 23 = .ok (.iconst 0, 1) := by decide +kernel
theorem dX12_isAlive_24 : decode cX12_isAlive 24 = .ok (.ireturn, 1) := by decide +kernel
theorem dX12_isBoy_0 : decode cX12_isBoy 0 = .ok (.iload_n 1, 1) := by decide +kernel
theorem dX12_isBoy_1 : decode cX12_isBoy 1 = .ok (.ifCond .lt 17, 3) := by decide +kernel
theorem dX12_isBoy_4 : decode cX12_isBoy 4 = .ok (.iload_n 1, 1) := by decide +kernel
theorem dX12_isBoy_5 : decode cX12_isBoy 5 = .ok (.aload_n 0, 1) := by decide +kernel
theorem dX12_isBoy_6 : decode cX12_isBoy 6 = .ok (.getfield 39, 3) := by decide +kernel
theorem dX12_isBoy_9 : decode cX12_isBoy 9 = .ok (.iconst 3, 1) := by decide +kernel
theorem dX12_isBoy_10 : decode cX12_isBoy 10 = .ok (.iaload, 1) := by decide +kernel
theorem dX12_isBoy_11 : decode cX12_isBoy 11 = .ok (.if_icmp .ge 7, 3) := by decide +kernel
theorem dX12_isBoy_14 : decode cX12_isBoy 14 = .ok (.iconst 1, 1) := by decide +kernel
theorem dX12_isBoy_15 : decode cX12_isBoy 15 = .ok (.goto 4, 3) := by decide +kernel
theorem dX12_isBoy_18 : decode cX12_isBoy 18 = .ok (.iconst 0, 1) := by decide +kernel
theorem dX12_isBoy_19 : decode cX12_isBoy 19 = .ok (.ireturn, 1) := by decide +kernel
theorem dX12_isCanon_0 : decode cX12_isCanon 0 = .ok (.iload_n 1, 1) := by decide +kernel
theorem dX12_isCanon_1 : decode cX12_isCanon 1 = .ok (.ifCond .lt 17, 3) := by decide +kernel
theorem dX12_isCanon_4 : decode cX12_isCanon 4 = .ok (.iload_n 1, 1) := by decide +kernel
theorem dX12_isCanon_5 : decode cX12_isCanon 5 = .ok (.aload_n 0, 1) := by decide +kernel
theorem dX12_isCanon_6 : decode cX12_isCanon 6 = .ok (.getfield 39, 3) := by decide +kernel
theorem dX12_isCanon_9 : decode cX12_isCanon 9 = .ok (.iconst 4, 1) := by decide +kernel
theorem dX12_isCanon_10 : decode cX12_isCanon 10 = .ok (.iaload, 1) := by decide +kernel
theorem dX12_isCanon_11 : decode cX12_isCanon 11 = .ok (.if_icmp .ge 7, 3) := by decide +kernel
theorem dX12_isCanon_14 : decode cX12_isCanon 14 = .ok (.iconst 1, 1) := by decide +kernel
theorem dX12_isCanon_15 : decode cX12_isCanon 15 = .ok (.goto 4, 3) := by decide +kernel
theorem dX12_isCanon_18 : decode cX12_isCanon 18 = .ok (.iconst 0, 1) := by decide +kernel
theorem dX12_isCanon_19 : decode cX12_isCanon 19 = .ok (.ireturn, 1) := by decide +kernel
theorem dX12_isChoir_0 : decode cX12_isChoir 0 = .ok (.aload_n 0, 1) := by decide +kernel
theorem dX12_isChoir_1 : decode cX12_isChoir 1 = .ok (.getfield 39, 3) := by decide +kernel
theorem dX12_isChoir_4 : decode cX12_isChoir 4 = .ok (.iconst 0, 1) := by decide +kernel
theorem dX12_isChoir_5 : decode cX12_isChoir 5 = .ok (.iaload, 1) := by decide +kernel
theorem dX12_isChoir_6 : decode cX12_isChoir 6 = .ok (.iconst 1, 1) := by decide +kernel
theorem dX12_isChoir_7 : decode cX12_isChoir 7 = .ok (.if_icmp .ne 7, 3) := by decide +kernel
theorem dX12_isChoir_10 : decode cX12_isChoir 10 = .ok (.iconst 1, 1) := by decide +kernel
theorem dX12_isChoir_11 : decode cX12_isChoir 11 = .ok (.goto 4, 3) := by decide +kernel
theorem dX12_isChoir_14 : decode cX12_isChoir 14 = .ok (.iconst 0, 1) := by decide +kernel
theorem dX12_isChoir_15 : decode cX12_isChoir 15 = .ok (.ireturn, 1) := by decide +kernel
theorem dX12_isFarm_0 : decode cX12_isFarm 0 = .ok (.iload_n 1, 1) := by decide +kernel
theorem dX12_isFarm_1 : decode cX12_isFarm 1 = .ok (.ifCond .lt 17, 3) := by decide +kernel
theorem dX12_isFarm_4 : decode cX12_isFarm 4 = .ok (.iload_n 1, 1) := by decide +kernel
theorem dX12_isFarm_5 : decode cX12_isFarm 5 = .ok (.aload_n 0, 1) := by decide +kernel
theorem dX12_isFarm_6 : decode cX12_isFarm 6 = .ok (.getfield 39, 3) := by decide +kernel
theorem dX12_isFarm_9 : decode cX12_isFarm 9 = .ok (.iconst 5, 1) := by decide +kernel
theorem dX12_isFarm_10 : decode cX12_isFarm 10 = .ok (.iaload, 1) := by decide +kernel
theorem dX12_isFarm_11 : decode cX12_isFarm 11 = .ok (.if_icmp .ge 7, 3) := by decide +kernel
theorem dX12_isFarm_14 : decode cX12_isFarm 14 = .ok (.iconst 1, 1) := by decide +kernel
theorem dX12_isFarm_15 : decode cX12_isFarm 15 = .ok (.goto 4, 3) := by decide +kernel
theorem dX12_isFarm_18 : decode cX12_isFarm 18 = .ok (.iconst 0, 1) := by decide +kernel
theorem dX12_isFarm_19 : decode cX12_isFarm 19 = .ok (.ireturn, 1) := by decide +kernel
theorem dX12_isSound_0 : decode cX12_isSound 0 = .ok (.aload_n 0, 1) := by decide +kernel
theorem dX12_isSound_1 : decode cX12_isSound 1 = .ok (.iload_n 1, 1) := by decide +kernel
theorem dX12_isSound_2 : decode cX12_isSound 2 = .ok (.invokevirtual 301, 3) := by decide +kernel
theorem dX12_isSound_5 : decode cX12_isSound 5 = .ok (.ifCond .eq 16, 3) := by decide +kernel
theorem dX12_isSound_8 : decode cX12_isSound 8 = .ok (.aload_n 0, 1) := by decide +kernel
theorem dX12_isSound_9 : decode cX12_isSound 9 = .ok (.iload_n 1, 1) := by decide +kernel
theorem dX12_isSound_10 : decode cX12_isSound 10 = .ok (.iconst 0, 1) := by decide +kernel
theorem dX12_isSound_11 : decode cX12_isSound 11 = .ok (.invokevirtual 304, 3) := by decide +kernel
theorem dX12_isSound_14 : decode cX12_isSound 14 = .ok (.ifCond .le 7, 3) := by decide +kernel
theorem dX12_isSound_17 : decode cX12_isSound 17 = .ok (.iconst 1, 1) := by decide +kernel
theorem dX12_isSound_18 : decode cX12_isSound 18 = .ok (.goto 4, 3) := by decide +kernel
theorem dX12_isSound_21 : decode cX12_isSound 21 = .ok (.iconst 0, 1) := by decide +kernel
theorem dX12_isSound_22 : decode cX12_isSound 22 = .ok (.ireturn, 1) := by decide +kernel
theorem dX12_keeps_0 : decode cX12_keeps 0 = .ok (.iconst 0, 1) := by decide +kernel
theorem dX12_keeps_1 : decode cX12_keeps 1 = .ok (.istore_n 1, 1) := by decide +kernel
theorem dX12_keeps_2 : decode cX12_keeps 2 = .ok (.iload_n 1, 1) := by decide +kernel
theorem dX12_keeps_3 : decode cX12_keeps 3 = .ok (.bipush 42, 2) := by decide +kernel
theorem dX12_keeps_5 : decode cX12_keeps 5 = .ok (.if_icmp .ge 24, 3) := by decide +kernel
theorem dX12_keeps_8 : decode cX12_keeps 8 = .ok (.aload_n 0, 1) := by decide +kernel
theorem dX12_keeps_9 : decode cX12_keeps 9 = .ok (.getfield 52, 3) := by decide +kernel
theorem dX12_keeps_12 : decode cX12_keeps 12 = .ok (.iload_n 1, 1) := by decide +kernel
theorem dX12_keeps_13 : decode cX12_keeps 13 = .ok (.aload_n 0, 1) := by decide +kernel
theorem dX12_keeps_14 : decode cX12_keeps 14 = .ok (.getfield 39, 3) := by decide +kernel
theorem dX12_keeps_17 : decode cX12_keeps 17 = .ok (.bipush 10, 2) := by decide +kernel
theorem dX12_keeps_19 : decode cX12_keeps 19 = .ok (.iload_n 1, 1) := by decide +kernel
theorem dX12_keeps_20 : decode cX12_keeps 20 = .ok (.iadd, 1) := by decide +kernel
theorem dX12_keeps_21 : decode cX12_keeps 21 = .ok (.iaload, 1) := by decide +kernel
theorem dX12_keeps_22 : decode cX12_keeps 22 = .ok (.iastore, 1) := by decide +kernel
theorem dX12_keeps_23 : decode cX12_keeps 23 = .ok (.iinc 1 1, 3) := by decide +kernel
theorem dX12_keeps_26 : decode cX12_keeps 26 = .ok (.goto (-24), 3) := by decide +kernel
theorem dX12_keeps_29 : decode cX12_keeps 29 = .ok (.return_, 1) := by decide +kernel
theorem dX12_laysBack_0 : decode cX12_laysBack 0 = .ok (.iconst 0, 1) := by decide +kernel
theorem dX12_laysBack_1 : decode cX12_laysBack 1 = .ok (.istore_n 1, 1) := by decide +kernel
theorem dX12_laysBack_2 : decode cX12_laysBack 2 = .ok (.iload_n 1, 1) := by decide +kernel
theorem dX12_laysBack_3 : decode cX12_laysBack 3 = .ok (.bipush 42, 2) := by decide +kernel
theorem dX12_laysBack_5 : decode cX12_laysBack 5 = .ok (.if_icmp .ge 24, 3) := by decide +kernel
theorem dX12_laysBack_8 : decode cX12_laysBack 8 = .ok (.aload_n 0, 1) := by decide +kernel
theorem dX12_laysBack_9 : decode cX12_laysBack 9 = .ok (.getfield 39, 3) := by decide +kernel
theorem dX12_laysBack_12 : decode cX12_laysBack 12 = .ok (.bipush 10, 2) := by decide +kernel
theorem dX12_laysBack_14 : decode cX12_laysBack 14 = .ok (.iload_n 1, 1) := by decide +kernel
theorem dX12_laysBack_15 : decode cX12_laysBack 15 = .ok (.iadd, 1) := by decide +kernel
theorem dX12_laysBack_16 : decode cX12_laysBack 16 = .ok (.aload_n 0, 1) := by decide +kernel
theorem dX12_laysBack_17 : decode cX12_laysBack 17 = .ok (.getfield 52, 3) := by decide +kernel
theorem dX12_laysBack_20 : decode cX12_laysBack 20 = .ok (.iload_n 1, 1) := by decide +kernel
theorem dX12_laysBack_21 : decode cX12_laysBack 21 = .ok (.iaload, 1) := by decide +kernel
theorem dX12_laysBack_22 : decode cX12_laysBack 22 = .ok (.iastore, 1) := by decide +kernel
theorem dX12_laysBack_23 : decode cX12_laysBack 23 = .ok (.iinc 1 1, 3) := by decide +kernel
theorem dX12_laysBack_26 : decode cX12_laysBack 26 = .ok (.goto (-24), 3) := by decide +kernel
theorem dX12_laysBack_29 : decode cX12_laysBack 29 = .ok (.return_, 1) := by decide +kernel
theorem dX12_soundMany_0 : decode cX12_soundMany 0 = .ok (.iconst 0, 1) := by decide +kernel
theorem dX12_soundMany_1 : decode cX12_soundMany 1 = .ok (.istore_n 1, 1) := by decide +kernel
theorem dX12_soundMany_2 : decode cX12_soundMany 2 = .ok (.iconst 0, 1) := by decide +kernel
theorem dX12_soundMany_3 : decode cX12_soundMany 3 = .ok (.istore_n 2, 1) := by decide +kernel
theorem dX12_soundMany_4 : decode cX12_soundMany 4 = .ok (.iload_n 2, 1) := by decide +kernel
theorem dX12_soundMany_5 : decode cX12_soundMany 5 = .ok (.aload_n 0, 1) := by decide +kernel
theorem dX12_soundMany_6 : decode cX12_soundMany 6 = .ok (.getfield 39, 3) := by decide +kernel
theorem dX12_soundMany_9 : decode cX12_soundMany 9 = .ok (.iconst 3, 1) := by decide +kernel
theorem dX12_soundMany_10 : decode cX12_soundMany 10 = .ok (.iaload, 1) := by decide +kernel
theorem dX12_soundMany_11 : decode cX12_soundMany 11 = .ok (.if_icmp .ge 25, 3) := by decide +kernel
theorem dX12_soundMany_14 : decode cX12_soundMany 14 = .ok (.iload_n 1, 1) := by decide +kernel
theorem dX12_soundMany_15 : decode cX12_soundMany 15 = .ok (.aload_n 0, 1) := by decide +kernel
theorem dX12_soundMany_16 : decode cX12_soundMany 16 = .ok (.iload_n 2, 1) := by decide +kernel
theorem dX12_soundMany_17 : decode cX12_soundMany 17 = .ok (.invokevirtual 314, 3) := by decide +kernel
theorem dX12_soundMany_20 : decode cX12_soundMany 20 = .ok (.ifCond .eq 7, 3) := by decide +kernel
theorem dX12_soundMany_23 : decode cX12_soundMany 23 = .ok (.iconst 1, 1) := by decide +kernel
theorem dX12_soundMany_24 : decode cX12_soundMany 24 = .ok (.goto 4, 3) := by decide +kernel
theorem dX12_soundMany_27 : decode cX12_soundMany 27 = .ok (.iconst 0, 1) := by decide +kernel
theorem dX12_soundMany_28 : decode cX12_soundMany 28 = .ok (.iadd, 1) := by decide +kernel
theorem dX12_soundMany_29 : decode cX12_soundMany 29 = .ok (.istore_n 1, 1) := by decide +kernel
theorem dX12_soundMany_30 : decode cX12_soundMany 30 = .ok (.iinc 2 1, 3) := by decide +kernel
theorem dX12_soundMany_33 : decode cX12_soundMany 33 = .ok (.goto (-29), 3) := by decide +kernel
theorem dX12_soundMany_36 : decode cX12_soundMany 36 = .ok (.iload_n 1, 1) := by decide +kernel
theorem dX12_soundMany_37 : decode cX12_soundMany 37 = .ok (.ireturn, 1) := by decide +kernel
theorem iX12 : ∀ w ∈ u_ws RX12 TX12 38, w ∈ gT := i_of (by decide +kernel)
theorem li_16 : (16 : Int32).toInt = 16 := by decide
theorem li_42 : (42 : Int32).toInt = 42 := by decide
theorem iv_63_0 {B : Nat} : aiv B 63 (0 : Int32).toInt.toNat = (0, 1) := by rw [show (0 : Int32).toInt.toNat = 0 by decide]; rfl
theorem iv_63_3 {B : Nat} : aiv B 63 (3 : Int32).toInt.toNat = (0, 6) := by rw [show (3 : Int32).toInt.toNat = 3 by decide]; rfl
theorem iv_63_4 {B : Nat} : aiv B 63 (4 : Int32).toInt.toNat = (0, 4) := by rw [show (4 : Int32).toInt.toNat = 4 by decide]; rfl
theorem iv_63_5 {B : Nat} : aiv B 63 (5 : Int32).toInt.toNat = (0, 6) := by rw [show (5 : Int32).toInt.toNat = 5 by decide]; rfl
set_option maxHeartbeats 4000000 in
set_option maxRecDepth 100000 in
theorem t_X12_canonOf (l : Launch) (dC : Nat → ClassId) (dI : Nat → Nat → Nat) (tys : List (ClassId × FieldType)) (κ : tK) (B : Nat) (ws : va_W) (hT : Ty κ tys B ws) (a0 : Nat) (k_a0 : κ a0 = some 12) (a1 : Int32) (l_a1 : 0 ≤ a1.toInt) (h_a1 : a1.toInt ≤ 3) (a2 : Int32) (l_a2 : 0 ≤ a2.toInt) (h_a2 : a2.toInt ≤ 2) (sz : Nat) : Met l yX12_canonOf (ws_u yX12_canonOf cX12_canonOf 3 (some .int)) ({ frames := 0, cells := 0, slots := 0, locals := 0 }) (va_Pc [.ref a0, .int a1, .int a2] (cPre (dC, dI) tys ws sz)) (va_Qi (fun (r : Int32) (w : va_W) => Ty κ tys B w ∧ Sm [] [] κ ws w) (fun w t => cPost (dC, dI) tys w (va_A ws sz) t) (va_A ws sz)) 0 0 (va_A ws sz) := by
  refine Met.ofW (cc := cX12_canonOf) (maxL := 3) (ret := (some .int)) (by decide) rfl ?_
  intro p e s m args below meth c s₁ B0 hml hv
  obtain ⟨rfl, hsz, hP, hK, hD0, hE⟩ := hv
  have hx := B0.exec
  have hb := B0.bytes
  have hr := B0.returns
  have hts0 := atoms_spec (ws := ws_u yX12_canonOf cX12_canonOf 3 (some .int)) B0.pre
  have hts : ∀ w ∈ gT, w.before _ s = true := fun w h => hts0 w (List.mem_cons_of_mem _ h)
  have hown : s.vm.findClass RX12 = some m.cls := findClass_of_methodNamed B0.named
  have hlocks := B0.notSynchronized
  subst hsz
  have hD := hD0.self (sz := s.heap.size)
  generalize hAe : va_A ws s.heap.size = A at hD ⊢
  have hA : ∀ q : Nat, s.heap.size ≤ q → A q := fun q h => by rw [← hAe]; exact Or.inr h
  have hw : tW (dC, dI) tys κ B A s ws s.heap [] := ⟨hK, hP, hD, va_S.rf, hT⟩
  have hM : Sm [] [] κ ws ws := Sm.rf
  clear hP hK hD hD0 hts0
  have hl := lv_entry ([.ref a0, .int a1, .int a2]) (n := 3) (Nat.le_of_ble_eq_true rfl)
  rw [lg_entry_eq]
  generalize (lg_sl ([.ref a0, .int a1, .int a2]) ++ List.replicate (3 - (lg_sl ([.ref a0, .int a1, .int a2])).length) Slot.unset).toArray = ls at hl ⊢
  have hl : lv_has ls 3 [(0, .ref a0), (1, .int a1), (2, .int a2)] := hl
  refine t_start (fun QQ hQ => ?_)
  refine lv_aload_n hx hb dX12_canonOf_0 rfl (lv_at hl 0 rfl) ?_
  refine t_getr (k1 := 63) (ci := 12) (C := RX12) (T := TX12) (N := 38) hx hb hts iX12 hown hw k_a0 rfl rfl rfl 20 (by decide) (hts _ tw_1145) (fun _ h9 => h9) dX12_canonOf_1 rfl (fun v1 k_v1 f_a0_X12_20 => ?_)
  refine lv_bipush (v := 40) hx hb dX12_canonOf_4 (by decide) ?_
  refine lv_iconst (v := 3) hx hb dX12_canonOf_6 (by decide) ?_
  refine lv_iload_n hx hb dX12_canonOf_7 rfl (lv_at hl 1 rfl) ?_
  refine lv_imul hx hb dX12_canonOf_8 ?_
  refine lv_topi (fun v8 e_v8 => ?_)
  have e_v8 : v8.toInt = 3 * a1.toInt := ml_i e_v8 li_3 rfl (by omega) (by omega)
  refine lv_iadd hx hb dX12_canonOf_9 ?_
  refine lv_topi (fun v9 e_v9 => ?_)
  have e_v9 : v9.toInt = 40 + v8.toInt := ad_i e_v9 li_40 rfl (by omega) (by omega)
  refine lv_iload_n hx hb dX12_canonOf_10 rfl (lv_at hl 2 rfl) ?_
  refine lv_iadd hx hb dX12_canonOf_11 ?_
  refine lv_topi (fun v11 e_v11 => ?_)
  have e_v11 : v11.toInt = v9.toInt + a2.toInt := ad_i e_v11 rfl rfl (by omega) (by omega)
  refine t_iald hx hb hw k_v1 rfl rfl (by omega) (show v11.toInt < 306 by omega) dX12_canonOf_12 (fun v12 r_v12 s_v12 q_v12 => ?_)
  have l_v12 := i32_lo v12
  have h_v12 := i32_hi v12
  rw [hQ]
  refine W.widen (k := 0) (n := 0) (Nat.le_refl _) (Nat.le_refl _) ?_
  exact W.iret (v := v12) hx hb hr (fun t ht hW => ⟨⟨v12, ws, rfl, ⟨hw.2.2.2.2, hM⟩, by rw [ht]; exact hw.2.1, va_K.moved hW.alike hw.1, hw.2.2.1⟩, hw.2.2.2.1.F ht⟩) hw.2.2.2.1.2.2 dX12_canonOf_13
set_option maxHeartbeats 4000000 in
set_option maxRecDepth 100000 in
theorem t_X12_isCanon (l : Launch) (dC : Nat → ClassId) (dI : Nat → Nat → Nat) (tys : List (ClassId × FieldType)) (κ : tK) (B : Nat) (ws : va_W) (hT : Ty κ tys B ws) (a0 : Nat) (k_a0 : κ a0 = some 12) (a1 : Int32) (sz : Nat) : Met l yX12_isCanon (ws_u yX12_isCanon cX12_isCanon 2 (some .boolean)) ({ frames := 0, cells := 0, slots := 0, locals := 0 }) (va_Pc [.ref a0, .int a1] (cPre (dC, dI) tys ws sz)) (va_Qi (fun (r : Int32) (w : va_W) => 0 ≤ r.toInt ∧ r.toInt ≤ 1 ∧ Ty κ tys B w ∧ Sm [] [] κ ws w ∧ (r.toInt = 0 ∨ 0 ≤ a1.toInt ∧ a1.toInt ≤ 3)) (fun w t => cPost (dC, dI) tys w (va_A ws sz) t) (va_A ws sz)) 0 0 (va_A ws sz) := by
  refine Met.ofW (cc := cX12_isCanon) (maxL := 2) (ret := (some .boolean)) (by decide) rfl ?_
  intro p e s m args below meth c s₁ B0 hml hv
  obtain ⟨rfl, hsz, hP, hK, hD0, hE⟩ := hv
  have hx := B0.exec
  have hb := B0.bytes
  have hr := B0.returns
  have hts0 := atoms_spec (ws := ws_u yX12_isCanon cX12_isCanon 2 (some .boolean)) B0.pre
  have hts : ∀ w ∈ gT, w.before _ s = true := fun w h => hts0 w (List.mem_cons_of_mem _ h)
  have hown : s.vm.findClass RX12 = some m.cls := findClass_of_methodNamed B0.named
  have hlocks := B0.notSynchronized
  subst hsz
  have hD := hD0.self (sz := s.heap.size)
  generalize hAe : va_A ws s.heap.size = A at hD ⊢
  have hA : ∀ q : Nat, s.heap.size ≤ q → A q := fun q h => by rw [← hAe]; exact Or.inr h
  have hw : tW (dC, dI) tys κ B A s ws s.heap [] := ⟨hK, hP, hD, va_S.rf, hT⟩
  have hM : Sm [] [] κ ws ws := Sm.rf
  clear hP hK hD hD0 hts0
  have l_a1 := i32_lo a1
  have h_a1 := i32_hi a1
  have hl := lv_entry ([.ref a0, .int a1]) (n := 2) (Nat.le_of_ble_eq_true rfl)
  rw [lg_entry_eq]
  generalize (lg_sl ([.ref a0, .int a1]) ++ List.replicate (2 - (lg_sl ([.ref a0, .int a1])).length) Slot.unset).toArray = ls at hl ⊢
  have hl : lv_has ls 2 [(0, .ref a0), (1, .int a1)] := hl
  refine t_start (fun QQ hQ => ?_)
  refine lv_iload_n hx hb dX12_isCanon_0 rfl (lv_at hl 1 rfl) ?_
  refine lv_if_lt (tgt := 18) hx hb dX12_isCanon_1 (by decide) (fun c_1 => ?_) (fun c_1 => ?_)
  · simp only [fa_lt, fa_le, fa_eq, li_0] at c_1
    refine lv_iconst (v := 0) hx hb dX12_isCanon_18 (by decide) ?_
    rw [hQ]
    refine W.widen (k := 0) (n := 0) (Nat.le_refl _) (Nat.le_refl _) ?_
    exact W.zret (v := 0) hx hb hr rfl (fun t ht hW => ⟨⟨0, ws, rfl, ⟨(by decide), (by decide), hw.2.2.2.2, hM, (by have := li_0; omega)⟩, by rw [ht]; exact hw.2.1, va_K.moved hW.alike hw.1, hw.2.2.1⟩, hw.2.2.2.1.F ht⟩) hw.2.2.2.1.2.2 dX12_isCanon_19
  · simp only [fa_lt, fa_le, fa_eq, li_0] at c_1
    refine lv_iload_n hx hb dX12_isCanon_4 rfl (lv_at hl 1 rfl) ?_
    refine lv_aload_n hx hb dX12_isCanon_5 rfl (lv_at hl 0 rfl) ?_
    refine t_getr (k1 := 63) (ci := 12) (C := RX12) (T := TX12) (N := 38) hx hb hts iX12 hown hw k_a0 rfl rfl rfl 20 (by decide) (hts _ tw_1145) (fun _ h9 => h9) dX12_isCanon_6 rfl (fun v6 k_v6 f_a0_X12_20 => ?_)
    refine lv_iconst (v := 4) hx hb dX12_isCanon_9 (by decide) ?_
    refine t_iald hx hb hw k_v6 rfl rfl (by decide) (by decide) dX12_isCanon_10 (fun v10 r_v10 s_v10 f_v6_M_said_4 => ?_)
    have l_v10 : 0 ≤ v10.toInt := by rw [iv_63_4] at r_v10; exact r_v10
    have h_v10 : v10.toInt ≤ 4 := by rw [iv_63_4] at s_v10; exact s_v10
    refine lv_icmp_ge (tgt := 18) hx hb dX12_isCanon_11 (by decide) (fun c_11 => ?_) (fun c_11 => ?_)
    · simp only [fa_lt, fa_le, fa_eq] at c_11
      refine lv_iconst (v := 0) hx hb dX12_isCanon_18 (by decide) ?_
      rw [hQ]
      refine W.widen (k := 0) (n := 0) (Nat.le_refl _) (Nat.le_refl _) ?_
      exact W.zret (v := 0) hx hb hr rfl (fun t ht hW => ⟨⟨0, ws, rfl, ⟨(by decide), (by decide), hw.2.2.2.2, hM, (by have := li_0; omega)⟩, by rw [ht]; exact hw.2.1, va_K.moved hW.alike hw.1, hw.2.2.1⟩, hw.2.2.2.1.F ht⟩) hw.2.2.2.1.2.2 dX12_isCanon_19
    · simp only [fa_lt, fa_le, fa_eq] at c_11
      refine lv_iconst (v := 1) hx hb dX12_isCanon_14 (by decide) ?_
      refine lv_goto (tgt := 19) hx hb dX12_isCanon_15 (by decide) ?_
      rw [hQ]
      refine W.widen (k := 0) (n := 0) (Nat.le_refl _) (Nat.le_refl _) ?_
      exact W.zret (v := 1) hx hb hr rfl (fun t ht hW => ⟨⟨1, ws, rfl, ⟨(by decide), (by decide), hw.2.2.2.2, hM, (by have := li_1; omega)⟩, by rw [ht]; exact hw.2.1, va_K.moved hW.alike hw.1, hw.2.2.1⟩, hw.2.2.2.1.F ht⟩) hw.2.2.2.1.2.2 dX12_isCanon_19
set_option maxHeartbeats 4000000 in
set_option maxRecDepth 100000 in
theorem t_X12_isAlive (l : Launch) (dC : Nat → ClassId) (dI : Nat → Nat → Nat) (tys : List (ClassId × FieldType)) (κ : tK) (B : Nat) (ws : va_W) (hT : Ty κ tys B ws) (a0 : Nat) (k_a0 : κ a0 = some 12) (a1 : Int32) (sz : Nat) : Met l yX12_isAlive (ws_u yX12_isAlive cX12_isAlive 2 (some .boolean)) ({ frames := 1, cells := 0, slots := 0, locals := 22 }) (va_Pc [.ref a0, .int a1] (cPre (dC, dI) tys ws sz)) (va_Qi (fun (r : Int32) (w : va_W) => 0 ≤ r.toInt ∧ r.toInt ≤ 1 ∧ Ty κ tys B w ∧ Sm [] [] κ ws w ∧ (r.toInt = 0 ∨ 0 ≤ a1.toInt ∧ a1.toInt ≤ 3)) (fun w t => cPost (dC, dI) tys w (va_A ws sz) t) (va_A ws sz)) 0 0 (va_A ws sz) := by
  refine Met.ofW (cc := cX12_isAlive) (maxL := 2) (ret := (some .boolean)) (by decide) rfl ?_
  intro p e s m args below meth c s₁ B0 hml hv
  obtain ⟨rfl, hsz, hP, hK, hD0, hE⟩ := hv
  have hx := B0.exec
  have hb := B0.bytes
  have hr := B0.returns
  have hts0 := atoms_spec (ws := ws_u yX12_isAlive cX12_isAlive 2 (some .boolean)) B0.pre
  have hts : ∀ w ∈ gT, w.before _ s = true := fun w h => hts0 w (List.mem_cons_of_mem _ h)
  have hown : s.vm.findClass RX12 = some m.cls := findClass_of_methodNamed B0.named
  have hlocks := B0.notSynchronized
  subst hsz
  have hD := hD0.self (sz := s.heap.size)
  generalize hAe : va_A ws s.heap.size = A at hD ⊢
  have hA : ∀ q : Nat, s.heap.size ≤ q → A q := fun q h => by rw [← hAe]; exact Or.inr h
  have hw : tW (dC, dI) tys κ B A s ws s.heap [] := ⟨hK, hP, hD, va_S.rf, hT⟩
  have hM : Sm [] [] κ ws ws := Sm.rf
  clear hP hK hD hD0 hts0
  have l_a1 := i32_lo a1
  have h_a1 := i32_hi a1
  have hl := lv_entry ([.ref a0, .int a1]) (n := 2) (Nat.le_of_ble_eq_true rfl)
  rw [lg_entry_eq]
  generalize (lg_sl ([.ref a0, .int a1]) ++ List.replicate (2 - (lg_sl ([.ref a0, .int a1])).length) Slot.unset).toArray = ls at hl ⊢
  have hl : lv_has ls 2 [(0, .ref a0), (1, .int a1)] := hl
  refine t_start (fun QQ hQ => ?_)
  refine lv_aload_n hx hb dX12_isAlive_0 rfl (lv_at hl 0 rfl) ?_
  refine lv_iload_n hx hb dX12_isAlive_1 rfl (lv_at hl 1 rfl) ?_
  refine t_calli (va_runV (As := [.int a1]) (rest := []) ⟨hx, hb, hml, hown, hts⟩ (t_X12_isCanon l dC dI tys κ B ws hw.2.2.2.2 a0 k_a0 a1 s.heap.size) (cwV 1 hts (gUV tw_1465 tw_1467 ts_5_9 tw_13 tw_1468) rfl rfl rfl (by decide +kernel) ⟨(Nat.le_of_ble_eq_true rfl), (Nat.le_of_ble_eq_true rfl)⟩) ⟨cPre.blind, t_recv hw (ci := 12) k_a0 rfl rfl, cPre.use hw.2.1 hw.1 hw.2.2.1 hE⟩ rfl rfl hl.1 rfl (lv_room (Nat.le_of_ble_eq_true rfl)) dX12_isAlive_2 ⟨(Nat.le_of_ble_eq_true rfl), (Nat.le_of_ble_eq_true rfl)⟩) hw hA (fun _ _ h => h.2.2.1) (fun v2 w_1 H locs hp hw => ?_)
  obtain ⟨l_v2, h_v2, _, hm, x_v2_0⟩ := hp
  have hM := hM.trans hm (by decide) (by decide)
  refine lv_if_eq (tgt := 23) hx hb dX12_isAlive_5 (by decide) (fun c_5 => ?_) (fun c_5 => ?_)
  · simp only [fa_lt, fa_le, fa_eq, li_0] at c_5
    refine lv_iconst (v := 0) hx hb dX12_isAlive_23 (by decide) ?_
    rw [hQ]
    refine W.widen (k := 0) (n := 0) (Nat.le_refl _) (Nat.le_refl _) ?_
    exact W.zret (v := 0) hx hb hr rfl (fun t ht hW => ⟨⟨0, w_1, rfl, ⟨(by decide), (by decide), hw.2.2.2.2, hM, (by have := li_0; omega)⟩, by rw [ht]; exact hw.2.1, va_K.moved hW.alike hw.1, hw.2.2.1⟩, hw.2.2.2.1.F ht⟩) hw.2.2.2.1.2.2 dX12_isAlive_24
  · simp only [fa_lt, fa_le, fa_eq, li_0] at c_5
    refine lv_aload_n hx hb dX12_isAlive_8 rfl (lv_at hl 0 rfl) ?_
    refine lv_iload_n hx hb dX12_isAlive_9 rfl (lv_at hl 1 rfl) ?_
    refine lv_iconst (v := 0) hx hb dX12_isAlive_10 (by decide) ?_
    refine t_calli (va_runV (As := [.int a1, .int 0]) (rest := []) ⟨hx, hb, hml, hown, hts⟩ (t_X12_canonOf l dC dI tys κ B w_1 hw.2.2.2.2 a0 k_a0 a1 (by omega) (by omega) 0 (by decide) (by decide) H.size) (cwV 2 hts (gUV tw_1469 tw_1471 ts_5_10 tw_13 tw_1472) rfl rfl rfl (by decide +kernel) ⟨(Nat.le_of_ble_eq_true rfl), (Nat.le_of_ble_eq_true rfl)⟩) ⟨cPre.blind, t_recv hw (ci := 12) k_a0 rfl rfl, cPre.use hw.2.1 hw.1 hw.2.2.1 hE⟩ rfl rfl hl.1 rfl (lv_room (Nat.le_of_ble_eq_true rfl)) dX12_isAlive_11 ⟨(Nat.le_of_ble_eq_true rfl), (Nat.le_of_ble_eq_true rfl)⟩) hw hA (fun _ _ h => h.1) (fun v11 w_2 H locs hp hw => ?_)
    obtain ⟨_, hm⟩ := hp
    have l_v11 := i32_lo v11
    have h_v11 := i32_hi v11
    have hM := hM.trans hm (by decide) (by decide)
    refine lv_bipush (v := 100) hx hb dX12_isAlive_14 (by decide) ?_
    refine lv_icmp_ge (tgt := 23) hx hb dX12_isAlive_16 (by decide) (fun c_16 => ?_) (fun c_16 => ?_)
    · simp only [fa_lt, fa_le, fa_eq, li_100] at c_16
      refine lv_iconst (v := 0) hx hb dX12_isAlive_23 (by decide) ?_
      rw [hQ]
      refine W.widen (k := 0) (n := 0) (Nat.le_refl _) (Nat.le_refl _) ?_
      exact W.zret (v := 0) hx hb hr rfl (fun t ht hW => ⟨⟨0, w_2, rfl, ⟨(by decide), (by decide), hw.2.2.2.2, hM, (by have := li_0; omega)⟩, by rw [ht]; exact hw.2.1, va_K.moved hW.alike hw.1, hw.2.2.1⟩, hw.2.2.2.1.F ht⟩) hw.2.2.2.1.2.2 dX12_isAlive_24
    · simp only [fa_lt, fa_le, fa_eq, li_100] at c_16
      refine lv_iconst (v := 1) hx hb dX12_isAlive_19 (by decide) ?_
      refine lv_goto (tgt := 24) hx hb dX12_isAlive_20 (by decide) ?_
      rw [hQ]
      refine W.widen (k := 0) (n := 0) (Nat.le_refl _) (Nat.le_refl _) ?_
      exact W.zret (v := 1) hx hb hr rfl (fun t ht hW => ⟨⟨1, w_2, rfl, ⟨(by decide), (by decide), hw.2.2.2.2, hM, (by have := li_1; omega)⟩, by rw [ht]; exact hw.2.1, va_K.moved hW.alike hw.1, hw.2.2.1⟩, hw.2.2.2.1.F ht⟩) hw.2.2.2.1.2.2 dX12_isAlive_24
set_option maxHeartbeats 4000000 in
set_option maxRecDepth 100000 in
theorem t_X12_agesAll (l : Launch) (dC : Nat → ClassId) (dI : Nat → Nat → Nat) (tys : List (ClassId × FieldType)) (κ : tK) (B : Nat) (ws : va_W) (hT : Ty κ tys B ws) (a0 : Nat) (k_a0 : κ a0 = some 12) (f0 : Nat) (k_f0 : κ f0 = some 63) (f_a0_X12_20 : fld ws a0 12 20 (.ref f0)) (f1 : Int32) (l_f1 : 0 ≤ f1.toInt) (h_f1 : f1.toInt ≤ 1999) (f_f0_M_said_10 : elt ws f0 (10 : Int32).toInt.toNat f1) (sz : Nat) : Met l yX12_agesAll (ws_u yX12_agesAll cX12_agesAll 2 none) ({ frames := 2, cells := 0, slots := 0, locals := 43 }) (va_Pc [.ref a0] (cPre (dC, dI) tys ws sz)) (va_Qv (fun (w : va_W) => Ty κ tys B w ∧ Sm [] [63] κ ws w ∧ elt w f0 (10 : Int32).toInt.toNat f1) (fun w t => cPost (dC, dI) tys w (va_A ws sz) t) (va_A ws sz)) 0 0 (va_A ws sz) := by
  refine Met.ofW (cc := cX12_agesAll) (maxL := 2) (ret := none) (by decide) rfl ?_
  intro p e s m args below meth c s₁ B0 hml hv
  obtain ⟨rfl, hsz, hP, hK, hD0, hE⟩ := hv
  have hx := B0.exec
  have hb := B0.bytes
  have hr := B0.returns
  have hts0 := atoms_spec (ws := ws_u yX12_agesAll cX12_agesAll 2 none) B0.pre
  have hts : ∀ w ∈ gT, w.before _ s = true := fun w h => hts0 w (List.mem_cons_of_mem _ h)
  have hown : s.vm.findClass RX12 = some m.cls := findClass_of_methodNamed B0.named
  have hlocks := B0.notSynchronized
  subst hsz
  have hD := hD0.self (sz := s.heap.size)
  generalize hAe : va_A ws s.heap.size = A at hD ⊢
  have hA : ∀ q : Nat, s.heap.size ≤ q → A q := fun q h => by rw [← hAe]; exact Or.inr h
  have hw : tW (dC, dI) tys κ B A s ws s.heap [] := ⟨hK, hP, hD, va_S.rf, hT⟩
  have hM : Sm [] [63] κ ws ws := Sm.rf
  clear hP hK hD hD0 hts0
  have hl := lv_entry ([.ref a0]) (n := 2) (Nat.le_of_ble_eq_true rfl)
  rw [lg_entry_eq]
  generalize (lg_sl ([.ref a0]) ++ List.replicate (2 - (lg_sl ([.ref a0])).length) Slot.unset).toArray = ls at hl ⊢
  have hl : lv_has ls 2 [(0, .ref a0)] := hl
  refine t_start (fun QQ hQ => ?_)
  refine lv_aload_n hx hb dX12_agesAll_0 rfl (lv_at hl 0 rfl) ?_
  refine t_getk (ci := 12) (C := RX12) (T := TX12) (N := 38) hx hb hts iX12 hown hw rfl 20 (by decide) (hts _ tw_1145) (fun _ h9 => h9) dX12_agesAll_1 f_a0_X12_20 ?_
  refine lv_bipush (v := 10) hx hb dX12_agesAll_4 (by decide) ?_
  refine t_ialdk hx hb hw k_f0 rfl rfl (by decide) (by decide) f_f0_M_said_10 dX12_agesAll_6 ?_
  refine lv_bipush (v := 10) hx hb dX12_agesAll_7 (by decide) ?_
  refine lv_irem hx hb dX12_agesAll_9 (ne_i li_10 (by decide)) ?_
  refine lv_topi (fun v9 e_v9 => ?_)
  have e_v9 : v9.toInt = f1.toInt % 10 := rm_i e_v9 rfl li_10 (by omega) (by decide)
  refine lv_bipush (v := 9) hx hb dX12_agesAll_10 (by decide) ?_
  refine lv_icmp_eq (tgt := 16) hx hb dX12_agesAll_12 (by decide) (fun c_12 => ?_) (fun c_12 => ?_)
  · simp only [fa_lt, fa_le, fa_eq, li_9] at c_12
    refine lv_iconst (v := 0) hx hb dX12_agesAll_16 (by decide) ?_
    refine lv_istore_n (lv' := [(1, .int 0), (0, .ref a0)]) hx hb dX12_agesAll_17 rfl hl (by decide) rfl (fun ls hl => ?_)
    have J18 : ∀ (n : Nat) (H : Heap) (locs : List Loc) (ls : Array Slot), (∃ (w18 : va_W) (p18_l1 : Int32), tW (dC, dI) tys κ B A s w18 H locs ∧ Sm [] [63] κ ws w18 ∧ 0 ≤ p18_l1.toInt ∧ p18_l1.toInt ≤ 4 ∧ fld w18 a0 12 20 (.ref f0) ∧ elt w18 f0 (10 : Int32).toInt.toNat f1 ∧ lv_has ls 2 [(0, .ref a0), (1, .int p18_l1)] ∧ (4 - p18_l1.toInt).toNat = n) → W p l e (headSpec (ws_u yX12_agesAll cX12_agesAll 2 none) ({ frames := 2, cells := 0, slots := 0, locals := 43 })).room s m ([.ref a0] : List Value).toArray below meth c H locs 0 0 QQ (F0 m 18 ls []) := by
      refine loopT _ ?_
      intro n_18 H locs ls hI ih_18
      obtain ⟨w18, p18_l1, hw, hM, l_p18_l1, h_p18_l1, f_a0_X12_20, f_f0_M_said_10, hl, hn_18⟩ := hI
      refine lv_iload_n hx hb dX12_agesAll_18 rfl (lv_at hl 1 rfl) ?_
      refine lv_aload_n hx hb dX12_agesAll_19 rfl (lv_at hl 0 rfl) ?_
      refine t_getk (ci := 12) (C := RX12) (T := TX12) (N := 38) hx hb hts iX12 hown hw rfl 20 (by decide) (hts _ tw_1145) (fun _ h9 => h9) dX12_agesAll_20 f_a0_X12_20 ?_
      refine lv_iconst (v := 4) hx hb dX12_agesAll_23 (by decide) ?_
      refine t_iald hx hb hw k_f0 rfl rfl (by decide) (by decide) dX12_agesAll_24 (fun v24 r_v24 s_v24 f_f0_M_said_4 => ?_)
      have l_v24 : 0 ≤ v24.toInt := by rw [iv_63_4] at r_v24; exact r_v24
      have h_v24 : v24.toInt ≤ 4 := by rw [iv_63_4] at s_v24; exact s_v24
      refine lv_icmp_ge (tgt := 82) hx hb dX12_agesAll_25 (by decide) (fun c_25 => ?_) (fun c_25 => ?_)
      · simp only [fa_lt, fa_le, fa_eq] at c_25
        rw [hQ]
        refine W.widen (k := 0) (n := 0) (Nat.le_refl _) (Nat.le_refl _) ?_
        exact W.vret hx hb hr (fun t ht hW => ⟨⟨w18, rfl, ⟨hw.2.2.2.2, hM, f_f0_M_said_10⟩, by rw [ht]; exact hw.2.1, va_K.moved hW.alike hw.1, hw.2.2.1⟩, hw.2.2.2.1.F ht⟩) hw.2.2.2.1.2.2 dX12_agesAll_82
      · simp only [fa_lt, fa_le, fa_eq] at c_25
        refine lv_aload_n hx hb dX12_agesAll_28 rfl (lv_at hl 0 rfl) ?_
        refine lv_iload_n hx hb dX12_agesAll_29 rfl (lv_at hl 1 rfl) ?_
        refine t_calli (va_runV (As := [.int p18_l1]) (rest := []) ⟨hx, hb, hml, hown, hts⟩ (t_X12_isAlive l dC dI tys κ B w18 hw.2.2.2.2 a0 k_a0 p18_l1 H.size) (cwV 1 hts (gUV tw_1571 tw_1573 ts_6_15 tw_13 tw_1574) rfl rfl rfl (by decide +kernel) ⟨(Nat.le_of_ble_eq_true rfl), (Nat.le_of_ble_eq_true rfl)⟩) ⟨cPre.blind, t_recv hw (ci := 12) k_a0 rfl rfl, cPre.use hw.2.1 hw.1 hw.2.2.1 hE⟩ rfl rfl hl.1 rfl (lv_room (Nat.le_of_ble_eq_true rfl)) dX12_agesAll_30 ⟨(Nat.le_of_ble_eq_true rfl), (Nat.le_of_ble_eq_true rfl)⟩) hw hA (fun _ _ h => h.2.2.1) (fun v30 w_1 H locs hp hw => ?_)
        obtain ⟨l_v30, h_v30, _, hm, x_v30_0⟩ := hp
        have hM := hM.trans hm (by decide) (by decide)
        have f_a0_X12_20 := hm.1 _ _ _ _ f_a0_X12_20 (by decide)
        have f_f0_M_said_10 := hm.elt k_f0 (by decide) f_f0_M_said_10
        have f_f0_M_said_4 := hm.elt k_f0 (by decide) f_f0_M_said_4
        have J76 : ∀ (H : Heap) (locs : List Loc) (ls : Array Slot) (w76 : va_W), tW (dC, dI) tys κ B A s w76 H locs → Sm [] [63] κ ws w76 → fld w76 a0 12 20 (.ref f0) → elt w76 f0 (10 : Int32).toInt.toNat f1 → elt w76 f0 (4 : Int32).toInt.toNat v24 → lv_has ls 2 [(0, .ref a0), (1, .int p18_l1)] → W p l e (headSpec (ws_u yX12_agesAll cX12_agesAll 2 none) ({ frames := 2, cells := 0, slots := 0, locals := 43 })).room s m ([.ref a0] : List Value).toArray below meth c H locs 0 0 QQ (F0 m 76 ls []) := by
          intro H locs ls w76 hw hM f_a0_X12_20 f_f0_M_said_10 f_f0_M_said_4 hl
          obtain ⟨v76, e_v76⟩ : ∃ y : Int32, y = p18_l1 + 1 := ⟨_, rfl⟩
          refine lv_iinc (v := v76) (lv' := [(1, .int v76), (0, .ref a0)]) hx hb dX12_agesAll_76 hl (k := 1) rfl e_v76.symm (by decide) rfl (fun ls hl => ?_)
          have e_v76 : v76.toInt = p18_l1.toInt + 1 := ad_i e_v76 rfl li_1 (by omega) (by omega)
          refine lv_goto (tgt := 18) hx hb dX12_agesAll_79 (by decide) ?_
          exact ih_18 _ _ _ _ (by omega) ⟨w76, v76, hw, hM, (by omega), (by omega), f_a0_X12_20, f_f0_M_said_10, (lv_sub hl [1, 0] rfl), rfl⟩
        refine lv_if_ne (tgt := 39) hx hb dX12_agesAll_33 (by decide) (fun c_33 => ?_) (fun c_33 => ?_)
        · simp only [fa_lt, fa_le, fa_eq, li_0] at c_33
          refine lv_aload_n hx hb dX12_agesAll_39 rfl (lv_at hl 0 rfl) ?_
          refine t_getk (ci := 12) (C := RX12) (T := TX12) (N := 38) hx hb hts iX12 hown hw rfl 20 (by decide) (hts _ tw_1145) (fun _ h9 => h9) dX12_agesAll_40 f_a0_X12_20 ?_
          refine lv_bipush (v := 40) hx hb dX12_agesAll_43 (by decide) ?_
          refine lv_iconst (v := 3) hx hb dX12_agesAll_45 (by decide) ?_
          refine lv_iload_n hx hb dX12_agesAll_46 rfl (lv_at hl 1 rfl) ?_
          refine lv_imul hx hb dX12_agesAll_47 ?_
          refine lv_topi (fun v47 e_v47 => ?_)
          have e_v47 : v47.toInt = 3 * p18_l1.toInt := ml_i e_v47 li_3 rfl (by omega) (by omega)
          refine lv_iadd hx hb dX12_agesAll_48 ?_
          refine lv_topi (fun v48 e_v48 => ?_)
          have e_v48 : v48.toInt = 40 + v47.toInt := ad_i e_v48 li_40 rfl (by omega) (by omega)
          refine lv_dup2_11 hx hb dX12_agesAll_49 rfl rfl ?_
          refine t_iald hx hb hw k_f0 rfl rfl (by omega) (show v48.toInt < 306 by omega) dX12_agesAll_50 (fun v50 r_v50 s_v50 q_v50 => ?_)
          have l_v50 := i32_lo v50
          have h_v50 := i32_hi v50
          refine lv_iconst (v := 1) hx hb dX12_agesAll_51 (by decide) ?_
          refine lv_iadd hx hb dX12_agesAll_52 ?_
          refine lv_topi (fun v52 e_v52 => ?_)
          have l_v52 := i32_lo v52
          have h_v52 := i32_hi v52
          refine t_iast hx hb hw k_f0 rfl rfl (by omega) (show v48.toInt < 306 by omega) (by rw [fr_63 (by omega) (by omega)]; exact i32_lo _) (by rw [fr_63 (by omega) (by omega)]; exact i32_hi _) dX12_agesAll_53 (fun w_2 H locs hw u => ?_)
          have hM := hM.up3 u k_f0 (by decide)
          have f_a0_X12_20 := u.1 _ _ _ _ f_a0_X12_20
          have f_f0_M_said_10 := u.2.2.1 _ _ _ f_f0_M_said_10 (Or.inr (by rw [show (10 : Int32).toInt.toNat = 10 by decide]; omega))
          have f_f0_M_said_4 := u.2.2.1 _ _ _ f_f0_M_said_4 (Or.inr (by rw [show (4 : Int32).toInt.toNat = 4 by decide]; omega))
          refine lv_aload_n hx hb dX12_agesAll_54 rfl (lv_at hl 0 rfl) ?_
          refine lv_iload_n hx hb dX12_agesAll_55 rfl (lv_at hl 1 rfl) ?_
          refine t_calli (va_runV (As := [.int p18_l1]) (rest := []) ⟨hx, hb, hml, hown, hts⟩ (t_X12_isAlive l dC dI tys κ B w_2 hw.2.2.2.2 a0 k_a0 p18_l1 H.size) (cwV 1 hts (gUV tw_1571 tw_1573 ts_6_15 tw_13 tw_1574) rfl rfl rfl (by decide +kernel) ⟨(Nat.le_of_ble_eq_true rfl), (Nat.le_of_ble_eq_true rfl)⟩) ⟨cPre.blind, t_recv hw (ci := 12) k_a0 rfl rfl, cPre.use hw.2.1 hw.1 hw.2.2.1 hE⟩ rfl rfl hl.1 rfl (lv_room (Nat.le_of_ble_eq_true rfl)) dX12_agesAll_56 ⟨(Nat.le_of_ble_eq_true rfl), (Nat.le_of_ble_eq_true rfl)⟩) hw hA (fun _ _ h => h.2.2.1) (fun v56 w_3 H locs hp hw => ?_)
          obtain ⟨l_v56, h_v56, _, hm, x_v56_0⟩ := hp
          have hM := hM.trans hm (by decide) (by decide)
          have f_a0_X12_20 := hm.1 _ _ _ _ f_a0_X12_20 (by decide)
          have f_f0_M_said_10 := hm.elt k_f0 (by decide) f_f0_M_said_10
          have f_f0_M_said_4 := hm.elt k_f0 (by decide) f_f0_M_said_4
          refine lv_if_ne (tgt := 76) hx hb dX12_agesAll_59 (by decide) (fun c_59 => ?_) (fun c_59 => ?_)
          · simp only [fa_lt, fa_le, fa_eq, li_0] at c_59
            exact J76 _ _ _ w_3 hw hM f_a0_X12_20 f_f0_M_said_10 f_f0_M_said_4 (lv_sub hl [0, 1] rfl)
          · simp only [fa_lt, fa_le, fa_eq, li_0] at c_59
            refine lv_aload_n hx hb dX12_agesAll_62 rfl (lv_at hl 0 rfl) ?_
            refine t_getk (ci := 12) (C := RX12) (T := TX12) (N := 38) hx hb hts iX12 hown hw rfl 20 (by decide) (hts _ tw_1145) (fun _ h9 => h9) dX12_agesAll_63 f_a0_X12_20 ?_
            refine lv_bipush (v := 40) hx hb dX12_agesAll_66 (by decide) ?_
            refine lv_iconst (v := 3) hx hb dX12_agesAll_68 (by decide) ?_
            refine lv_iload_n hx hb dX12_agesAll_69 rfl (lv_at hl 1 rfl) ?_
            refine lv_imul hx hb dX12_agesAll_70 ?_
            refine lv_topi (fun v70 e_v70 => ?_)
            have e_v70 : v70.toInt = 3 * p18_l1.toInt := ml_i e_v70 li_3 rfl (by omega) (by omega)
            refine lv_iadd hx hb dX12_agesAll_71 ?_
            refine lv_topi (fun v71 e_v71 => ?_)
            have e_v71 : v71.toInt = 40 + v70.toInt := ad_i e_v71 li_40 rfl (by omega) (by omega)
            refine lv_iconst (v := 1) hx hb dX12_agesAll_72 (by decide) ?_
            refine lv_iadd hx hb dX12_agesAll_73 ?_
            refine lv_topi (fun v73 e_v73 => ?_)
            have e_v73 : v73.toInt = v71.toInt + 1 := ad_i e_v73 rfl li_1 (by omega) (by omega)
            refine lv_iconst (v := 1) hx hb dX12_agesAll_74 (by decide) ?_
            refine t_iast hx hb hw k_f0 rfl rfl (by omega) (show v73.toInt < 306 by omega) (by rw [fr_63 (by omega) (by omega)]; exact i32_lo _) (by rw [fr_63 (by omega) (by omega)]; exact i32_hi _) dX12_agesAll_75 (fun w_4 H locs hw u => ?_)
            have hM := hM.up3 u k_f0 (by decide)
            have f_a0_X12_20 := u.1 _ _ _ _ f_a0_X12_20
            have f_f0_M_said_10 := u.2.2.1 _ _ _ f_f0_M_said_10 (Or.inr (by rw [show (10 : Int32).toInt.toNat = 10 by decide]; omega))
            have f_f0_M_said_4 := u.2.2.1 _ _ _ f_f0_M_said_4 (Or.inr (by rw [show (4 : Int32).toInt.toNat = 4 by decide]; omega))
            exact J76 _ _ _ w_4 hw hM f_a0_X12_20 f_f0_M_said_10 f_f0_M_said_4 (lv_sub hl [0, 1] rfl)
        · simp only [fa_lt, fa_le, fa_eq, li_0] at c_33
          refine lv_goto (tgt := 76) hx hb dX12_agesAll_36 (by decide) ?_
          exact J76 _ _ _ w_1 hw hM f_a0_X12_20 f_f0_M_said_10 f_f0_M_said_4 (lv_sub hl [0, 1] rfl)
    exact J18 _ _ _ _ ⟨ws, 0, hw, hM, (by decide), (by decide), f_a0_X12_20, f_f0_M_said_10, (lv_sub hl [1, 0] rfl), rfl⟩
  · simp only [fa_lt, fa_le, fa_eq, li_9] at c_12
    rw [hQ]
    refine W.widen (k := 0) (n := 0) (Nat.le_refl _) (Nat.le_refl _) ?_
    exact W.vret hx hb hr (fun t ht hW => ⟨⟨ws, rfl, ⟨hw.2.2.2.2, hM, f_f0_M_said_10⟩, by rw [ht]; exact hw.2.1, va_K.moved hW.alike hw.1, hw.2.2.1⟩, hw.2.2.2.1.F ht⟩) hw.2.2.2.1.2.2 dX12_agesAll_15
set_option maxHeartbeats 4000000 in
set_option maxRecDepth 100000 in
theorem t_X12_boyOf (l : Launch) (dC : Nat → ClassId) (dI : Nat → Nat → Nat) (tys : List (ClassId × FieldType)) (κ : tK) (B : Nat) (ws : va_W) (hT : Ty κ tys B ws) (a0 : Nat) (k_a0 : κ a0 = some 12) (a1 : Int32) (l_a1 : 0 ≤ a1.toInt) (h_a1 : a1.toInt ≤ 5) (a2 : Int32) (l_a2 : 0 ≤ a2.toInt) (h_a2 : a2.toInt ≤ 2) (sz : Nat) : Met l yX12_boyOf (ws_u yX12_boyOf cX12_boyOf 3 (some .int)) ({ frames := 0, cells := 0, slots := 0, locals := 0 }) (va_Pc [.ref a0, .int a1, .int a2] (cPre (dC, dI) tys ws sz)) (va_Qi (fun (r : Int32) (w : va_W) => Ty κ tys B w ∧ Sm [] [] κ ws w) (fun w t => cPost (dC, dI) tys w (va_A ws sz) t) (va_A ws sz)) 0 0 (va_A ws sz) := by
  refine Met.ofW (cc := cX12_boyOf) (maxL := 3) (ret := (some .int)) (by decide) rfl ?_
  intro p e s m args below meth c s₁ B0 hml hv
  obtain ⟨rfl, hsz, hP, hK, hD0, hE⟩ := hv
  have hx := B0.exec
  have hb := B0.bytes
  have hr := B0.returns
  have hts0 := atoms_spec (ws := ws_u yX12_boyOf cX12_boyOf 3 (some .int)) B0.pre
  have hts : ∀ w ∈ gT, w.before _ s = true := fun w h => hts0 w (List.mem_cons_of_mem _ h)
  have hown : s.vm.findClass RX12 = some m.cls := findClass_of_methodNamed B0.named
  have hlocks := B0.notSynchronized
  subst hsz
  have hD := hD0.self (sz := s.heap.size)
  generalize hAe : va_A ws s.heap.size = A at hD ⊢
  have hA : ∀ q : Nat, s.heap.size ≤ q → A q := fun q h => by rw [← hAe]; exact Or.inr h
  have hw : tW (dC, dI) tys κ B A s ws s.heap [] := ⟨hK, hP, hD, va_S.rf, hT⟩
  have hM : Sm [] [] κ ws ws := Sm.rf
  clear hP hK hD hD0 hts0
  have hl := lv_entry ([.ref a0, .int a1, .int a2]) (n := 3) (Nat.le_of_ble_eq_true rfl)
  rw [lg_entry_eq]
  generalize (lg_sl ([.ref a0, .int a1, .int a2]) ++ List.replicate (3 - (lg_sl ([.ref a0, .int a1, .int a2])).length) Slot.unset).toArray = ls at hl ⊢
  have hl : lv_has ls 3 [(0, .ref a0), (1, .int a1), (2, .int a2)] := hl
  refine t_start (fun QQ hQ => ?_)
  refine lv_aload_n hx hb dX12_boyOf_0 rfl (lv_at hl 0 rfl) ?_
  refine t_getr (k1 := 63) (ci := 12) (C := RX12) (T := TX12) (N := 38) hx hb hts iX12 hown hw k_a0 rfl rfl rfl 20 (by decide) (hts _ tw_1145) (fun _ h9 => h9) dX12_boyOf_1 rfl (fun v1 k_v1 f_a0_X12_20 => ?_)
  refine lv_bipush (v := 16) hx hb dX12_boyOf_4 (by decide) ?_
  refine lv_iconst (v := 3) hx hb dX12_boyOf_6 (by decide) ?_
  refine lv_iload_n hx hb dX12_boyOf_7 rfl (lv_at hl 1 rfl) ?_
  refine lv_imul hx hb dX12_boyOf_8 ?_
  refine lv_topi (fun v8 e_v8 => ?_)
  have e_v8 : v8.toInt = 3 * a1.toInt := ml_i e_v8 li_3 rfl (by omega) (by omega)
  refine lv_iadd hx hb dX12_boyOf_9 ?_
  refine lv_topi (fun v9 e_v9 => ?_)
  have e_v9 : v9.toInt = 16 + v8.toInt := ad_i e_v9 li_16 rfl (by omega) (by omega)
  refine lv_iload_n hx hb dX12_boyOf_10 rfl (lv_at hl 2 rfl) ?_
  refine lv_iadd hx hb dX12_boyOf_11 ?_
  refine lv_topi (fun v11 e_v11 => ?_)
  have e_v11 : v11.toInt = v9.toInt + a2.toInt := ad_i e_v11 rfl rfl (by omega) (by omega)
  refine t_iald hx hb hw k_v1 rfl rfl (by omega) (show v11.toInt < 306 by omega) dX12_boyOf_12 (fun v12 r_v12 s_v12 q_v12 => ?_)
  have l_v12 := i32_lo v12
  have h_v12 := i32_hi v12
  rw [hQ]
  refine W.widen (k := 0) (n := 0) (Nat.le_refl _) (Nat.le_refl _) ?_
  exact W.iret (v := v12) hx hb hr (fun t ht hW => ⟨⟨v12, ws, rfl, ⟨hw.2.2.2.2, hM⟩, by rw [ht]; exact hw.2.1, va_K.moved hW.alike hw.1, hw.2.2.1⟩, hw.2.2.2.1.F ht⟩) hw.2.2.2.1.2.2 dX12_boyOf_13
set_option maxHeartbeats 4000000 in
set_option maxRecDepth 100000 in
theorem t_X12_in (l : Launch) (dC : Nat → ClassId) (dI : Nat → Nat → Nat) (tys : List (ClassId × FieldType)) (κ : tK) (B : Nat) (ws : va_W) (hT : Ty κ tys B ws) (a0 : Int64) (a1 : Int64) (a2 : Int64) (sz : Nat) : Met l yX12_in (ws_u yX12_in cX12_in 6 (some .boolean)) ({ frames := 0, cells := 0, slots := 0, locals := 0 }) (va_Pc [.long a0, .long a1, .long a2] (cPre (dC, dI) tys ws sz)) (va_Qi (fun (r : Int32) (w : va_W) => 0 ≤ r.toInt ∧ r.toInt ≤ 1 ∧ Ty κ tys B w ∧ Sm [] [] κ ws w ∧ (r.toInt = 0 ∨ (a1.toInt ≤ a0.toInt ∧ a0.toInt ≤ a2.toInt))) (fun w t => cPost (dC, dI) tys w (va_A ws sz) t) (va_A ws sz)) 0 0 (va_A ws sz) := by
  refine Met.ofW (cc := cX12_in) (maxL := 6) (ret := (some .boolean)) (by decide) rfl ?_
  intro p e s m args below meth c s₁ B0 hml hv
  obtain ⟨rfl, hsz, hP, hK, hD0, hE⟩ := hv
  have hx := B0.exec
  have hb := B0.bytes
  have hr := B0.returns
  have hts0 := atoms_spec (ws := ws_u yX12_in cX12_in 6 (some .boolean)) B0.pre
  have hts : ∀ w ∈ gT, w.before _ s = true := fun w h => hts0 w (List.mem_cons_of_mem _ h)
  have hown : s.vm.findClass RX12 = some m.cls := findClass_of_methodNamed B0.named
  have hlocks := B0.notSynchronized
  subst hsz
  have hD := hD0.self (sz := s.heap.size)
  generalize hAe : va_A ws s.heap.size = A at hD ⊢
  have hA : ∀ q : Nat, s.heap.size ≤ q → A q := fun q h => by rw [← hAe]; exact Or.inr h
  have hw : tW (dC, dI) tys κ B A s ws s.heap [] := ⟨hK, hP, hD, va_S.rf, hT⟩
  have hM : Sm [] [] κ ws ws := Sm.rf
  clear hP hK hD hD0 hts0
  have hl := lv_entry ([.long a0, .long a1, .long a2]) (n := 6) (Nat.le_of_ble_eq_true rfl)
  rw [lg_entry_eq]
  generalize (lg_sl ([.long a0, .long a1, .long a2]) ++ List.replicate (6 - (lg_sl ([.long a0, .long a1, .long a2])).length) Slot.unset).toArray = ls at hl ⊢
  have hl : lv_has ls 6 [(0, .long a0), (2, .long a1), (4, .long a2)] := hl
  refine t_start (fun QQ hQ => ?_)
  refine lv_lload_n hx hb dX12_in_0 rfl (lv_at hl 0 rfl) ?_
  refine lv_lload_n hx hb dX12_in_1 rfl (lv_at hl 1 rfl) ?_
  refine W.lcmp hx hb dX12_in_2 ?_
  refine lv_topi (fun v2 e_v2 => ?_)
  have l_v2 := i32_lo v2
  have h_v2 := i32_hi v2
  have g_v2 := lgc e_v2
  refine lv_if_lt (tgt := 17) hx hb dX12_in_3 (by decide) (fun c_3 => ?_) (fun c_3 => ?_)
  · simp only [fa_lt, fa_le, fa_eq, li_0] at c_3
    refine lv_iconst (v := 0) hx hb dX12_in_17 (by decide) ?_
    rw [hQ]
    refine W.widen (k := 0) (n := 0) (Nat.le_refl _) (Nat.le_refl _) ?_
    exact W.zret (v := 0) hx hb hr rfl (fun t ht hW => ⟨⟨0, ws, rfl, ⟨(by decide), (by decide), hw.2.2.2.2, hM, (by have := li_0; omega)⟩, by rw [ht]; exact hw.2.1, va_K.moved hW.alike hw.1, hw.2.2.1⟩, hw.2.2.2.1.F ht⟩) hw.2.2.2.1.2.2 dX12_in_18
  · simp only [fa_lt, fa_le, fa_eq, li_0] at c_3
    refine lv_lload_n hx hb dX12_in_6 rfl (lv_at hl 0 rfl) ?_
    refine lv_lload hx hb dX12_in_7 (lv_at hl 2 rfl) ?_
    refine W.lcmp hx hb dX12_in_9 ?_
    refine lv_topi (fun v9 e_v9 => ?_)
    have l_v9 := i32_lo v9
    have h_v9 := i32_hi v9
    have g_v9 := lgc e_v9
    refine lv_if_gt (tgt := 17) hx hb dX12_in_10 (by decide) (fun c_10 => ?_) (fun c_10 => ?_)
    · simp only [fa_lt, fa_le, fa_eq, li_0] at c_10
      refine lv_iconst (v := 0) hx hb dX12_in_17 (by decide) ?_
      rw [hQ]
      refine W.widen (k := 0) (n := 0) (Nat.le_refl _) (Nat.le_refl _) ?_
      exact W.zret (v := 0) hx hb hr rfl (fun t ht hW => ⟨⟨0, ws, rfl, ⟨(by decide), (by decide), hw.2.2.2.2, hM, (by have := li_0; omega)⟩, by rw [ht]; exact hw.2.1, va_K.moved hW.alike hw.1, hw.2.2.1⟩, hw.2.2.2.1.F ht⟩) hw.2.2.2.1.2.2 dX12_in_18
    · simp only [fa_lt, fa_le, fa_eq, li_0] at c_10
      refine lv_iconst (v := 1) hx hb dX12_in_13 (by decide) ?_
      refine lv_goto (tgt := 18) hx hb dX12_in_14 (by decide) ?_
      rw [hQ]
      refine W.widen (k := 0) (n := 0) (Nat.le_refl _) (Nat.le_refl _) ?_
      exact W.zret (v := 1) hx hb hr rfl (fun t ht hW => ⟨⟨1, ws, rfl, ⟨(by decide), (by decide), hw.2.2.2.2, hM, (by have := li_1; omega)⟩, by rw [ht]; exact hw.2.1, va_K.moved hW.alike hw.1, hw.2.2.1⟩, hw.2.2.2.1.F ht⟩) hw.2.2.2.1.2.2 dX12_in_18
set_option maxHeartbeats 4000000 in
set_option maxRecDepth 100000 in
theorem t_X12_isBoy (l : Launch) (dC : Nat → ClassId) (dI : Nat → Nat → Nat) (tys : List (ClassId × FieldType)) (κ : tK) (B : Nat) (ws : va_W) (hT : Ty κ tys B ws) (a0 : Nat) (k_a0 : κ a0 = some 12) (a1 : Int32) (sz : Nat) : Met l yX12_isBoy (ws_u yX12_isBoy cX12_isBoy 2 (some .boolean)) ({ frames := 0, cells := 0, slots := 0, locals := 0 }) (va_Pc [.ref a0, .int a1] (cPre (dC, dI) tys ws sz)) (va_Qi (fun (r : Int32) (w : va_W) => 0 ≤ r.toInt ∧ r.toInt ≤ 1 ∧ Ty κ tys B w ∧ Sm [] [] κ ws w ∧ (r.toInt = 0 ∨ 0 ≤ a1.toInt ∧ a1.toInt ≤ 5)) (fun w t => cPost (dC, dI) tys w (va_A ws sz) t) (va_A ws sz)) 0 0 (va_A ws sz) := by
  refine Met.ofW (cc := cX12_isBoy) (maxL := 2) (ret := (some .boolean)) (by decide) rfl ?_
  intro p e s m args below meth c s₁ B0 hml hv
  obtain ⟨rfl, hsz, hP, hK, hD0, hE⟩ := hv
  have hx := B0.exec
  have hb := B0.bytes
  have hr := B0.returns
  have hts0 := atoms_spec (ws := ws_u yX12_isBoy cX12_isBoy 2 (some .boolean)) B0.pre
  have hts : ∀ w ∈ gT, w.before _ s = true := fun w h => hts0 w (List.mem_cons_of_mem _ h)
  have hown : s.vm.findClass RX12 = some m.cls := findClass_of_methodNamed B0.named
  have hlocks := B0.notSynchronized
  subst hsz
  have hD := hD0.self (sz := s.heap.size)
  generalize hAe : va_A ws s.heap.size = A at hD ⊢
  have hA : ∀ q : Nat, s.heap.size ≤ q → A q := fun q h => by rw [← hAe]; exact Or.inr h
  have hw : tW (dC, dI) tys κ B A s ws s.heap [] := ⟨hK, hP, hD, va_S.rf, hT⟩
  have hM : Sm [] [] κ ws ws := Sm.rf
  clear hP hK hD hD0 hts0
  have l_a1 := i32_lo a1
  have h_a1 := i32_hi a1
  have hl := lv_entry ([.ref a0, .int a1]) (n := 2) (Nat.le_of_ble_eq_true rfl)
  rw [lg_entry_eq]
  generalize (lg_sl ([.ref a0, .int a1]) ++ List.replicate (2 - (lg_sl ([.ref a0, .int a1])).length) Slot.unset).toArray = ls at hl ⊢
  have hl : lv_has ls 2 [(0, .ref a0), (1, .int a1)] := hl
  refine t_start (fun QQ hQ => ?_)
  refine lv_iload_n hx hb dX12_isBoy_0 rfl (lv_at hl 1 rfl) ?_
  refine lv_if_lt (tgt := 18) hx hb dX12_isBoy_1 (by decide) (fun c_1 => ?_) (fun c_1 => ?_)
  · simp only [fa_lt, fa_le, fa_eq, li_0] at c_1
    refine lv_iconst (v := 0) hx hb dX12_isBoy_18 (by decide) ?_
    rw [hQ]
    refine W.widen (k := 0) (n := 0) (Nat.le_refl _) (Nat.le_refl _) ?_
    exact W.zret (v := 0) hx hb hr rfl (fun t ht hW => ⟨⟨0, ws, rfl, ⟨(by decide), (by decide), hw.2.2.2.2, hM, (by have := li_0; omega)⟩, by rw [ht]; exact hw.2.1, va_K.moved hW.alike hw.1, hw.2.2.1⟩, hw.2.2.2.1.F ht⟩) hw.2.2.2.1.2.2 dX12_isBoy_19
  · simp only [fa_lt, fa_le, fa_eq, li_0] at c_1
    refine lv_iload_n hx hb dX12_isBoy_4 rfl (lv_at hl 1 rfl) ?_
    refine lv_aload_n hx hb dX12_isBoy_5 rfl (lv_at hl 0 rfl) ?_
    refine t_getr (k1 := 63) (ci := 12) (C := RX12) (T := TX12) (N := 38) hx hb hts iX12 hown hw k_a0 rfl rfl rfl 20 (by decide) (hts _ tw_1145) (fun _ h9 => h9) dX12_isBoy_6 rfl (fun v6 k_v6 f_a0_X12_20 => ?_)
    refine lv_iconst (v := 3) hx hb dX12_isBoy_9 (by decide) ?_
    refine t_iald hx hb hw k_v6 rfl rfl (by decide) (by decide) dX12_isBoy_10 (fun v10 r_v10 s_v10 f_v6_M_said_3 => ?_)
    have l_v10 : 0 ≤ v10.toInt := by rw [iv_63_3] at r_v10; exact r_v10
    have h_v10 : v10.toInt ≤ 6 := by rw [iv_63_3] at s_v10; exact s_v10
    refine lv_icmp_ge (tgt := 18) hx hb dX12_isBoy_11 (by decide) (fun c_11 => ?_) (fun c_11 => ?_)
    · simp only [fa_lt, fa_le, fa_eq] at c_11
      refine lv_iconst (v := 0) hx hb dX12_isBoy_18 (by decide) ?_
      rw [hQ]
      refine W.widen (k := 0) (n := 0) (Nat.le_refl _) (Nat.le_refl _) ?_
      exact W.zret (v := 0) hx hb hr rfl (fun t ht hW => ⟨⟨0, ws, rfl, ⟨(by decide), (by decide), hw.2.2.2.2, hM, (by have := li_0; omega)⟩, by rw [ht]; exact hw.2.1, va_K.moved hW.alike hw.1, hw.2.2.1⟩, hw.2.2.2.1.F ht⟩) hw.2.2.2.1.2.2 dX12_isBoy_19
    · simp only [fa_lt, fa_le, fa_eq] at c_11
      refine lv_iconst (v := 1) hx hb dX12_isBoy_14 (by decide) ?_
      refine lv_goto (tgt := 19) hx hb dX12_isBoy_15 (by decide) ?_
      rw [hQ]
      refine W.widen (k := 0) (n := 0) (Nat.le_refl _) (Nat.le_refl _) ?_
      exact W.zret (v := 1) hx hb hr rfl (fun t ht hW => ⟨⟨1, ws, rfl, ⟨(by decide), (by decide), hw.2.2.2.2, hM, (by have := li_1; omega)⟩, by rw [ht]; exact hw.2.1, va_K.moved hW.alike hw.1, hw.2.2.1⟩, hw.2.2.2.1.F ht⟩) hw.2.2.2.1.2.2 dX12_isBoy_19
set_option maxHeartbeats 4000000 in
set_option maxRecDepth 100000 in
theorem t_X12_isChoir (l : Launch) (dC : Nat → ClassId) (dI : Nat → Nat → Nat) (tys : List (ClassId × FieldType)) (κ : tK) (B : Nat) (ws : va_W) (hT : Ty κ tys B ws) (a0 : Nat) (k_a0 : κ a0 = some 12) (sz : Nat) : Met l yX12_isChoir (ws_u yX12_isChoir cX12_isChoir 1 (some .boolean)) ({ frames := 0, cells := 0, slots := 0, locals := 0 }) (va_Pc [.ref a0] (cPre (dC, dI) tys ws sz)) (va_Qi (fun (r : Int32) (w : va_W) => 0 ≤ r.toInt ∧ r.toInt ≤ 1 ∧ Ty κ tys B w ∧ Sm [] [] κ ws w) (fun w t => cPost (dC, dI) tys w (va_A ws sz) t) (va_A ws sz)) 0 0 (va_A ws sz) := by
  refine Met.ofW (cc := cX12_isChoir) (maxL := 1) (ret := (some .boolean)) (by decide) rfl ?_
  intro p e s m args below meth c s₁ B0 hml hv
  obtain ⟨rfl, hsz, hP, hK, hD0, hE⟩ := hv
  have hx := B0.exec
  have hb := B0.bytes
  have hr := B0.returns
  have hts0 := atoms_spec (ws := ws_u yX12_isChoir cX12_isChoir 1 (some .boolean)) B0.pre
  have hts : ∀ w ∈ gT, w.before _ s = true := fun w h => hts0 w (List.mem_cons_of_mem _ h)
  have hown : s.vm.findClass RX12 = some m.cls := findClass_of_methodNamed B0.named
  have hlocks := B0.notSynchronized
  subst hsz
  have hD := hD0.self (sz := s.heap.size)
  generalize hAe : va_A ws s.heap.size = A at hD ⊢
  have hA : ∀ q : Nat, s.heap.size ≤ q → A q := fun q h => by rw [← hAe]; exact Or.inr h
  have hw : tW (dC, dI) tys κ B A s ws s.heap [] := ⟨hK, hP, hD, va_S.rf, hT⟩
  have hM : Sm [] [] κ ws ws := Sm.rf
  clear hP hK hD hD0 hts0
  have hl := lv_entry ([.ref a0]) (n := 1) (Nat.le_of_ble_eq_true rfl)
  rw [lg_entry_eq]
  generalize (lg_sl ([.ref a0]) ++ List.replicate (1 - (lg_sl ([.ref a0])).length) Slot.unset).toArray = ls at hl ⊢
  have hl : lv_has ls 1 [(0, .ref a0)] := hl
  refine t_start (fun QQ hQ => ?_)
  refine lv_aload_n hx hb dX12_isChoir_0 rfl (lv_at hl 0 rfl) ?_
  refine t_getr (k1 := 63) (ci := 12) (C := RX12) (T := TX12) (N := 38) hx hb hts iX12 hown hw k_a0 rfl rfl rfl 20 (by decide) (hts _ tw_1145) (fun _ h9 => h9) dX12_isChoir_1 rfl (fun v1 k_v1 f_a0_X12_20 => ?_)
  refine lv_iconst (v := 0) hx hb dX12_isChoir_4 (by decide) ?_
  refine t_iald hx hb hw k_v1 rfl rfl (by decide) (by decide) dX12_isChoir_5 (fun v5 r_v5 s_v5 f_v1_M_said_0 => ?_)
  have l_v5 : 0 ≤ v5.toInt := by rw [iv_63_0] at r_v5; exact r_v5
  have h_v5 : v5.toInt ≤ 1 := by rw [iv_63_0] at s_v5; exact s_v5
  refine lv_iconst (v := 1) hx hb dX12_isChoir_6 (by decide) ?_
  refine lv_icmp_ne (tgt := 14) hx hb dX12_isChoir_7 (by decide) (fun c_7 => ?_) (fun c_7 => ?_)
  · simp only [fa_lt, fa_le, fa_eq, li_1] at c_7
    refine lv_iconst (v := 0) hx hb dX12_isChoir_14 (by decide) ?_
    rw [hQ]
    refine W.widen (k := 0) (n := 0) (Nat.le_refl _) (Nat.le_refl _) ?_
    exact W.zret (v := 0) hx hb hr rfl (fun t ht hW => ⟨⟨0, ws, rfl, ⟨(by decide), (by decide), hw.2.2.2.2, hM⟩, by rw [ht]; exact hw.2.1, va_K.moved hW.alike hw.1, hw.2.2.1⟩, hw.2.2.2.1.F ht⟩) hw.2.2.2.1.2.2 dX12_isChoir_15
  · simp only [fa_lt, fa_le, fa_eq, li_1] at c_7
    refine lv_iconst (v := 1) hx hb dX12_isChoir_10 (by decide) ?_
    refine lv_goto (tgt := 15) hx hb dX12_isChoir_11 (by decide) ?_
    rw [hQ]
    refine W.widen (k := 0) (n := 0) (Nat.le_refl _) (Nat.le_refl _) ?_
    exact W.zret (v := 1) hx hb hr rfl (fun t ht hW => ⟨⟨1, ws, rfl, ⟨(by decide), (by decide), hw.2.2.2.2, hM⟩, by rw [ht]; exact hw.2.1, va_K.moved hW.alike hw.1, hw.2.2.1⟩, hw.2.2.2.1.F ht⟩) hw.2.2.2.1.2.2 dX12_isChoir_15
set_option maxHeartbeats 4000000 in
set_option maxRecDepth 100000 in
theorem t_X12_isFarm (l : Launch) (dC : Nat → ClassId) (dI : Nat → Nat → Nat) (tys : List (ClassId × FieldType)) (κ : tK) (B : Nat) (ws : va_W) (hT : Ty κ tys B ws) (a0 : Nat) (k_a0 : κ a0 = some 12) (a1 : Int32) (sz : Nat) : Met l yX12_isFarm (ws_u yX12_isFarm cX12_isFarm 2 (some .boolean)) ({ frames := 0, cells := 0, slots := 0, locals := 0 }) (va_Pc [.ref a0, .int a1] (cPre (dC, dI) tys ws sz)) (va_Qi (fun (r : Int32) (w : va_W) => 0 ≤ r.toInt ∧ r.toInt ≤ 1 ∧ Ty κ tys B w ∧ Sm [] [] κ ws w ∧ (r.toInt = 0 ∨ 0 ≤ a1.toInt ∧ a1.toInt ≤ 5)) (fun w t => cPost (dC, dI) tys w (va_A ws sz) t) (va_A ws sz)) 0 0 (va_A ws sz) := by
  refine Met.ofW (cc := cX12_isFarm) (maxL := 2) (ret := (some .boolean)) (by decide) rfl ?_
  intro p e s m args below meth c s₁ B0 hml hv
  obtain ⟨rfl, hsz, hP, hK, hD0, hE⟩ := hv
  have hx := B0.exec
  have hb := B0.bytes
  have hr := B0.returns
  have hts0 := atoms_spec (ws := ws_u yX12_isFarm cX12_isFarm 2 (some .boolean)) B0.pre
  have hts : ∀ w ∈ gT, w.before _ s = true := fun w h => hts0 w (List.mem_cons_of_mem _ h)
  have hown : s.vm.findClass RX12 = some m.cls := findClass_of_methodNamed B0.named
  have hlocks := B0.notSynchronized
  subst hsz
  have hD := hD0.self (sz := s.heap.size)
  generalize hAe : va_A ws s.heap.size = A at hD ⊢
  have hA : ∀ q : Nat, s.heap.size ≤ q → A q := fun q h => by rw [← hAe]; exact Or.inr h
  have hw : tW (dC, dI) tys κ B A s ws s.heap [] := ⟨hK, hP, hD, va_S.rf, hT⟩
  have hM : Sm [] [] κ ws ws := Sm.rf
  clear hP hK hD hD0 hts0
  have l_a1 := i32_lo a1
  have h_a1 := i32_hi a1
  have hl := lv_entry ([.ref a0, .int a1]) (n := 2) (Nat.le_of_ble_eq_true rfl)
  rw [lg_entry_eq]
  generalize (lg_sl ([.ref a0, .int a1]) ++ List.replicate (2 - (lg_sl ([.ref a0, .int a1])).length) Slot.unset).toArray = ls at hl ⊢
  have hl : lv_has ls 2 [(0, .ref a0), (1, .int a1)] := hl
  refine t_start (fun QQ hQ => ?_)
  refine lv_iload_n hx hb dX12_isFarm_0 rfl (lv_at hl 1 rfl) ?_
  refine lv_if_lt (tgt := 18) hx hb dX12_isFarm_1 (by decide) (fun c_1 => ?_) (fun c_1 => ?_)
  · simp only [fa_lt, fa_le, fa_eq, li_0] at c_1
    refine lv_iconst (v := 0) hx hb dX12_isFarm_18 (by decide) ?_
    rw [hQ]
    refine W.widen (k := 0) (n := 0) (Nat.le_refl _) (Nat.le_refl _) ?_
    exact W.zret (v := 0) hx hb hr rfl (fun t ht hW => ⟨⟨0, ws, rfl, ⟨(by decide), (by decide), hw.2.2.2.2, hM, (by have := li_0; omega)⟩, by rw [ht]; exact hw.2.1, va_K.moved hW.alike hw.1, hw.2.2.1⟩, hw.2.2.2.1.F ht⟩) hw.2.2.2.1.2.2 dX12_isFarm_19
  · simp only [fa_lt, fa_le, fa_eq, li_0] at c_1
    refine lv_iload_n hx hb dX12_isFarm_4 rfl (lv_at hl 1 rfl) ?_
    refine lv_aload_n hx hb dX12_isFarm_5 rfl (lv_at hl 0 rfl) ?_
    refine t_getr (k1 := 63) (ci := 12) (C := RX12) (T := TX12) (N := 38) hx hb hts iX12 hown hw k_a0 rfl rfl rfl 20 (by decide) (hts _ tw_1145) (fun _ h9 => h9) dX12_isFarm_6 rfl (fun v6 k_v6 f_a0_X12_20 => ?_)
    refine lv_iconst (v := 5) hx hb dX12_isFarm_9 (by decide) ?_
    refine t_iald hx hb hw k_v6 rfl rfl (by decide) (by decide) dX12_isFarm_10 (fun v10 r_v10 s_v10 f_v6_M_said_5 => ?_)
    have l_v10 : 0 ≤ v10.toInt := by rw [iv_63_5] at r_v10; exact r_v10
    have h_v10 : v10.toInt ≤ 6 := by rw [iv_63_5] at s_v10; exact s_v10
    refine lv_icmp_ge (tgt := 18) hx hb dX12_isFarm_11 (by decide) (fun c_11 => ?_) (fun c_11 => ?_)
    · simp only [fa_lt, fa_le, fa_eq] at c_11
      refine lv_iconst (v := 0) hx hb dX12_isFarm_18 (by decide) ?_
      rw [hQ]
      refine W.widen (k := 0) (n := 0) (Nat.le_refl _) (Nat.le_refl _) ?_
      exact W.zret (v := 0) hx hb hr rfl (fun t ht hW => ⟨⟨0, ws, rfl, ⟨(by decide), (by decide), hw.2.2.2.2, hM, (by have := li_0; omega)⟩, by rw [ht]; exact hw.2.1, va_K.moved hW.alike hw.1, hw.2.2.1⟩, hw.2.2.2.1.F ht⟩) hw.2.2.2.1.2.2 dX12_isFarm_19
    · simp only [fa_lt, fa_le, fa_eq] at c_11
      refine lv_iconst (v := 1) hx hb dX12_isFarm_14 (by decide) ?_
      refine lv_goto (tgt := 19) hx hb dX12_isFarm_15 (by decide) ?_
      rw [hQ]
      refine W.widen (k := 0) (n := 0) (Nat.le_refl _) (Nat.le_refl _) ?_
      exact W.zret (v := 1) hx hb hr rfl (fun t ht hW => ⟨⟨1, ws, rfl, ⟨(by decide), (by decide), hw.2.2.2.2, hM, (by have := li_1; omega)⟩, by rw [ht]; exact hw.2.1, va_K.moved hW.alike hw.1, hw.2.2.1⟩, hw.2.2.2.1.F ht⟩) hw.2.2.2.1.2.2 dX12_isFarm_19
set_option maxHeartbeats 4000000 in
set_option maxRecDepth 100000 in
theorem t_X12_keeps (l : Launch) (dC : Nat → ClassId) (dI : Nat → Nat → Nat) (tys : List (ClassId × FieldType)) (κ : tK) (B : Nat) (ws : va_W) (hT : Ty κ tys B ws) (a0 : Nat) (k_a0 : κ a0 = some 12) (f0 : Nat) (k_f0 : κ f0 = some 63) (f_a0_X12_20 : fld ws a0 12 20 (.ref f0)) (f1 : Int32) (l_f1 : 0 ≤ f1.toInt) (h_f1 : f1.toInt ≤ 999) (f_f0_M_said_10 : elt ws f0 (10 : Int32).toInt.toNat f1) (sz : Nat) : Met l yX12_keeps (ws_u yX12_keeps cX12_keeps 2 none) ({ frames := 0, cells := 0, slots := 0, locals := 0 }) (va_Pc [.ref a0] (cPre (dC, dI) tys ws sz)) (va_Qv (fun (w : va_W) => Ty κ tys B w ∧ Sm [] [66] κ ws w) (fun w t => cPost (dC, dI) tys w (va_A ws sz) t) (va_A ws sz)) 0 0 (va_A ws sz) := by
  refine Met.ofW (cc := cX12_keeps) (maxL := 2) (ret := none) (by decide) rfl ?_
  intro p e s m args below meth c s₁ B0 hml hv
  obtain ⟨rfl, hsz, hP, hK, hD0, hE⟩ := hv
  have hx := B0.exec
  have hb := B0.bytes
  have hr := B0.returns
  have hts0 := atoms_spec (ws := ws_u yX12_keeps cX12_keeps 2 none) B0.pre
  have hts : ∀ w ∈ gT, w.before _ s = true := fun w h => hts0 w (List.mem_cons_of_mem _ h)
  have hown : s.vm.findClass RX12 = some m.cls := findClass_of_methodNamed B0.named
  have hlocks := B0.notSynchronized
  subst hsz
  have hD := hD0.self (sz := s.heap.size)
  generalize hAe : va_A ws s.heap.size = A at hD ⊢
  have hA : ∀ q : Nat, s.heap.size ≤ q → A q := fun q h => by rw [← hAe]; exact Or.inr h
  have hw : tW (dC, dI) tys κ B A s ws s.heap [] := ⟨hK, hP, hD, va_S.rf, hT⟩
  have hM : Sm [] [66] κ ws ws := Sm.rf
  clear hP hK hD hD0 hts0
  have hl := lv_entry ([.ref a0]) (n := 2) (Nat.le_of_ble_eq_true rfl)
  rw [lg_entry_eq]
  generalize (lg_sl ([.ref a0]) ++ List.replicate (2 - (lg_sl ([.ref a0])).length) Slot.unset).toArray = ls at hl ⊢
  have hl : lv_has ls 2 [(0, .ref a0)] := hl
  refine t_start (fun QQ hQ => ?_)
  refine lv_iconst (v := 0) hx hb dX12_keeps_0 (by decide) ?_
  refine lv_istore_n (lv' := [(1, .int 0), (0, .ref a0)]) hx hb dX12_keeps_1 rfl hl (by decide) rfl (fun ls hl => ?_)
  have J2 : ∀ (n : Nat) (H : Heap) (locs : List Loc) (ls : Array Slot), (∃ (w2 : va_W) (p2_l1 : Int32), tW (dC, dI) tys κ B A s w2 H locs ∧ Sm [] [66] κ ws w2 ∧ 0 ≤ p2_l1.toInt ∧ p2_l1.toInt ≤ 42 ∧ fld w2 a0 12 20 (.ref f0) ∧ elt w2 f0 (10 : Int32).toInt.toNat f1 ∧ lv_has ls 2 [(0, .ref a0), (1, .int p2_l1)] ∧ (42 - p2_l1.toInt).toNat = n) → W p l e (headSpec (ws_u yX12_keeps cX12_keeps 2 none) ({ frames := 0, cells := 0, slots := 0, locals := 0 })).room s m ([.ref a0] : List Value).toArray below meth c H locs 0 0 QQ (F0 m 2 ls []) := by
    refine loopT _ ?_
    intro n_2 H locs ls hI ih_2
    obtain ⟨w2, p2_l1, hw, hM, l_p2_l1, h_p2_l1, f_a0_X12_20, f_f0_M_said_10, hl, hn_2⟩ := hI
    refine lv_iload_n hx hb dX12_keeps_2 rfl (lv_at hl 1 rfl) ?_
    refine lv_bipush (v := 42) hx hb dX12_keeps_3 (by decide) ?_
    refine lv_icmp_ge (tgt := 29) hx hb dX12_keeps_5 (by decide) (fun c_5 => ?_) (fun c_5 => ?_)
    · simp only [fa_lt, fa_le, fa_eq, li_42] at c_5
      rw [hQ]
      refine W.widen (k := 0) (n := 0) (Nat.le_refl _) (Nat.le_refl _) ?_
      exact W.vret hx hb hr (fun t ht hW => ⟨⟨w2, rfl, ⟨hw.2.2.2.2, hM⟩, by rw [ht]; exact hw.2.1, va_K.moved hW.alike hw.1, hw.2.2.1⟩, hw.2.2.2.1.F ht⟩) hw.2.2.2.1.2.2 dX12_keeps_29
    · simp only [fa_lt, fa_le, fa_eq, li_42] at c_5
      refine lv_aload_n hx hb dX12_keeps_8 rfl (lv_at hl 0 rfl) ?_
      refine t_getr (k1 := 66) (ci := 12) (C := RX12) (T := TX12) (N := 38) hx hb hts iX12 hown hw k_a0 rfl rfl rfl 27 (by decide) (hts _ tw_1152) (fun _ h9 => h9) dX12_keeps_9 rfl (fun v9 k_v9 f_a0_X12_27 => ?_)
      refine lv_iload_n hx hb dX12_keeps_12 rfl (lv_at hl 1 rfl) ?_
      refine lv_aload_n hx hb dX12_keeps_13 rfl (lv_at hl 0 rfl) ?_
      refine t_getk (ci := 12) (C := RX12) (T := TX12) (N := 38) hx hb hts iX12 hown hw rfl 20 (by decide) (hts _ tw_1145) (fun _ h9 => h9) dX12_keeps_14 f_a0_X12_20 ?_
      refine lv_bipush (v := 10) hx hb dX12_keeps_17 (by decide) ?_
      refine lv_iload_n hx hb dX12_keeps_19 rfl (lv_at hl 1 rfl) ?_
      refine lv_iadd hx hb dX12_keeps_20 ?_
      refine lv_topi (fun v20 e_v20 => ?_)
      have e_v20 : v20.toInt = 10 + p2_l1.toInt := ad_i e_v20 li_10 rfl (by omega) (by omega)
      refine t_iald hx hb hw k_f0 rfl rfl (by omega) (show v20.toInt < 306 by omega) dX12_keeps_21 (fun v21 r_v21 s_v21 q_v21 => ?_)
      have l_v21 := i32_lo v21
      have h_v21 := i32_hi v21
      have hs_p2_l1 : (aiv B 66 p2_l1.toInt.toNat).1 ≤ v21.toInt ∧ v21.toInt ≤ (aiv B 66 p2_l1.toInt.toNat).2 := by
        rw [aiv_said] at r_v21 s_v21
        rw [aiv_kept, show 10 + p2_l1.toInt.toNat = v20.toInt.toNat by omega]
        exact ivS_down r_v21 s_v21 (fun hz => by rw [hz] at q_v21; rw [elt_eq hw.2.2.1 q_v21 f_f0_M_said_10]; omega)
      refine t_iast hx hb hw k_v9 rfl rfl (by omega) (show p2_l1.toInt < 42 by omega) hs_p2_l1.1 hs_p2_l1.2 dX12_keeps_22 (fun w_1 H locs hw u => ?_)
      have hM := hM.up3 u k_v9 (by decide)
      have f_a0_X12_20 := u.1 _ _ _ _ f_a0_X12_20
      have f_f0_M_said_10 := u.2.2.1 _ _ _ f_f0_M_said_10 (Or.inl (ne_k k_f0 k_v9 (by decide)))
      have f_a0_X12_27 := u.1 _ _ _ _ f_a0_X12_27
      obtain ⟨v23, e_v23⟩ : ∃ y : Int32, y = p2_l1 + 1 := ⟨_, rfl⟩
      refine lv_iinc (v := v23) (lv' := [(1, .int v23), (0, .ref a0)]) hx hb dX12_keeps_23 hl (k := 1) rfl e_v23.symm (by decide) rfl (fun ls hl => ?_)
      have e_v23 : v23.toInt = p2_l1.toInt + 1 := ad_i e_v23 rfl li_1 (by omega) (by omega)
      refine lv_goto (tgt := 2) hx hb dX12_keeps_26 (by decide) ?_
      exact ih_2 _ _ _ _ (by omega) ⟨w_1, v23, hw, hM, (by omega), (by omega), f_a0_X12_20, f_f0_M_said_10, (lv_sub hl [1, 0] rfl), rfl⟩
  exact J2 _ _ _ _ ⟨ws, 0, hw, hM, (by decide), (by decide), f_a0_X12_20, f_f0_M_said_10, (lv_sub hl [1, 0] rfl), rfl⟩
set_option maxHeartbeats 4000000 in
set_option maxRecDepth 100000 in
theorem t_X12_laysBack (l : Launch) (dC : Nat → ClassId) (dI : Nat → Nat → Nat) (tys : List (ClassId × FieldType)) (κ : tK) (B : Nat) (ws : va_W) (hT : Ty κ tys B ws) (a0 : Nat) (k_a0 : κ a0 = some 12) (f0 : Nat) (k_f0 : κ f0 = some 63) (f_a0_X12_20 : fld ws a0 12 20 (.ref f0)) (sz : Nat) : Met l yX12_laysBack (ws_u yX12_laysBack cX12_laysBack 2 none) ({ frames := 0, cells := 0, slots := 0, locals := 0 }) (va_Pc [.ref a0] (cPre (dC, dI) tys ws sz)) (va_Qv (fun (w : va_W) => Ty κ tys B w ∧ Sm [] [63] κ ws w ∧ (∃ (xd : Int32), 0 ≤ xd.toInt ∧ xd.toInt ≤ 999 ∧ elt w f0 (10 : Int32).toInt.toNat xd)) (fun w t => cPost (dC, dI) tys w (va_A ws sz) t) (va_A ws sz)) 0 0 (va_A ws sz) := by
  refine Met.ofW (cc := cX12_laysBack) (maxL := 2) (ret := none) (by decide) rfl ?_
  intro p e s m args below meth c s₁ B0 hml hv
  obtain ⟨rfl, hsz, hP, hK, hD0, hE⟩ := hv
  have hx := B0.exec
  have hb := B0.bytes
  have hr := B0.returns
  have hts0 := atoms_spec (ws := ws_u yX12_laysBack cX12_laysBack 2 none) B0.pre
  have hts : ∀ w ∈ gT, w.before _ s = true := fun w h => hts0 w (List.mem_cons_of_mem _ h)
  have hown : s.vm.findClass RX12 = some m.cls := findClass_of_methodNamed B0.named
  have hlocks := B0.notSynchronized
  subst hsz
  have hD := hD0.self (sz := s.heap.size)
  generalize hAe : va_A ws s.heap.size = A at hD ⊢
  have hA : ∀ q : Nat, s.heap.size ≤ q → A q := fun q h => by rw [← hAe]; exact Or.inr h
  have hw : tW (dC, dI) tys κ B A s ws s.heap [] := ⟨hK, hP, hD, va_S.rf, hT⟩
  have hM : Sm [] [63] κ ws ws := Sm.rf
  clear hP hK hD hD0 hts0
  have hl := lv_entry ([.ref a0]) (n := 2) (Nat.le_of_ble_eq_true rfl)
  rw [lg_entry_eq]
  generalize (lg_sl ([.ref a0]) ++ List.replicate (2 - (lg_sl ([.ref a0])).length) Slot.unset).toArray = ls at hl ⊢
  have hl : lv_has ls 2 [(0, .ref a0)] := hl
  refine t_start (fun QQ hQ => ?_)
  refine lv_iconst (v := 0) hx hb dX12_laysBack_0 (by decide) ?_
  refine lv_istore_n (lv' := [(1, .int 0), (0, .ref a0)]) hx hb dX12_laysBack_1 rfl hl (by decide) rfl (fun ls hl => ?_)
  have J2 : ∀ (n : Nat) (H : Heap) (locs : List Loc) (ls : Array Slot), (∃ (w2 : va_W) (p2_l1 : Int32), tW (dC, dI) tys κ B A s w2 H locs ∧ Sm [] [63] κ ws w2 ∧ 0 ≤ p2_l1.toInt ∧ p2_l1.toInt ≤ 42 ∧ fld w2 a0 12 20 (.ref f0) ∧ dayOk w2 f0 p2_l1 0 ∧ lv_has ls 2 [(0, .ref a0), (1, .int p2_l1)] ∧ (42 - p2_l1.toInt).toNat = n) → W p l e (headSpec (ws_u yX12_laysBack cX12_laysBack 2 none) ({ frames := 0, cells := 0, slots := 0, locals := 0 })).room s m ([.ref a0] : List Value).toArray below meth c H locs 0 0 QQ (F0 m 2 ls []) := by
    refine loopT _ ?_
    intro n_2 H locs ls hI ih_2
    obtain ⟨w2, p2_l1, hw, hM, l_p2_l1, h_p2_l1, f_a0_X12_20, li_2_0, hl, hn_2⟩ := hI
    refine lv_iload_n hx hb dX12_laysBack_2 rfl (lv_at hl 1 rfl) ?_
    refine lv_bipush (v := 42) hx hb dX12_laysBack_3 (by decide) ?_
    refine lv_icmp_ge (tgt := 29) hx hb dX12_laysBack_5 (by decide) (fun c_5 => ?_) (fun c_5 => ?_)
    · simp only [fa_lt, fa_le, fa_eq, li_42] at c_5
      rw [hQ]
      refine W.widen (k := 0) (n := 0) (Nat.le_refl _) (Nat.le_refl _) ?_
      exact W.vret hx hb hr (fun t ht hW => ⟨⟨w2, rfl, ⟨hw.2.2.2.2, hM, (by rcases li_2_0 with hy | ⟨d, he, h1, h2⟩; exact absurd hy (by omega); exact ⟨d, h1, h2, he⟩)⟩, by rw [ht]; exact hw.2.1, va_K.moved hW.alike hw.1, hw.2.2.1⟩, hw.2.2.2.1.F ht⟩) hw.2.2.2.1.2.2 dX12_laysBack_29
    · simp only [fa_lt, fa_le, fa_eq, li_42] at c_5
      refine lv_aload_n hx hb dX12_laysBack_8 rfl (lv_at hl 0 rfl) ?_
      refine t_getk (ci := 12) (C := RX12) (T := TX12) (N := 38) hx hb hts iX12 hown hw rfl 20 (by decide) (hts _ tw_1145) (fun _ h9 => h9) dX12_laysBack_9 f_a0_X12_20 ?_
      refine lv_bipush (v := 10) hx hb dX12_laysBack_12 (by decide) ?_
      refine lv_iload_n hx hb dX12_laysBack_14 rfl (lv_at hl 1 rfl) ?_
      refine lv_iadd hx hb dX12_laysBack_15 ?_
      refine lv_topi (fun v15 e_v15 => ?_)
      have e_v15 : v15.toInt = 10 + p2_l1.toInt := ad_i e_v15 li_10 rfl (by omega) (by omega)
      refine lv_aload_n hx hb dX12_laysBack_16 rfl (lv_at hl 0 rfl) ?_
      refine t_getr (k1 := 66) (ci := 12) (C := RX12) (T := TX12) (N := 38) hx hb hts iX12 hown hw k_a0 rfl rfl rfl 27 (by decide) (hts _ tw_1152) (fun _ h9 => h9) dX12_laysBack_17 rfl (fun v17 k_v17 f_a0_X12_27 => ?_)
      refine lv_iload_n hx hb dX12_laysBack_20 rfl (lv_at hl 1 rfl) ?_
      refine t_iald hx hb hw k_v17 rfl rfl (by omega) (show p2_l1.toInt < 42 by omega) dX12_laysBack_21 (fun v21 r_v21 s_v21 q_v21 => ?_)
      have l_v21 := i32_lo v21
      have h_v21 := i32_hi v21
      have hs_v15 : (aiv B 63 v15.toInt.toNat).1 ≤ v21.toInt ∧ v21.toInt ≤ (aiv B 63 v15.toInt.toNat).2 := by
        rw [aiv_kept] at r_v21 s_v21
        rw [aiv_said, show v15.toInt.toNat = 10 + p2_l1.toInt.toNat by omega]
        exact ivS_mono r_v21 s_v21
      refine t_iast hx hb hw k_f0 rfl rfl (by omega) (show v15.toInt < 306 by omega) hs_v15.1 hs_v15.2 dX12_laysBack_22 (fun w_1 H locs hw u => ?_)
      have hM := hM.up3 u k_f0 (by decide)
      have f_a0_X12_20 := u.1 _ _ _ _ f_a0_X12_20
      have f_a0_X12_27 := u.1 _ _ _ _ f_a0_X12_27
      obtain ⟨v23, e_v23⟩ : ∃ y : Int32, y = p2_l1 + 1 := ⟨_, rfl⟩
      refine lv_iinc (v := v23) (lv' := [(1, .int v23), (0, .ref a0)]) hx hb dX12_laysBack_23 hl (k := 1) rfl e_v23.symm (by decide) rfl (fun ls hl => ?_)
      have e_v23 : v23.toInt = p2_l1.toInt + 1 := ad_i e_v23 rfl li_1 (by omega) (by omega)
      refine lv_goto (tgt := 2) hx hb dX12_laysBack_26 (by decide) ?_
      have hli : dayOk w_1 f0 v23 0 := by
        have e10 : (10 : Int32).toInt.toNat = 10 := by decide
        by_cases hz : p2_l1.toInt = 0
        · refine Or.inr ⟨v21, ?_, ?_, ?_⟩
          · rw [e10, show (10 : Nat) = v15.toInt.toNat by omega]; exact u.2.2.2
          · rw [aiv_kept, show 10 + p2_l1.toInt.toNat = 10 by omega, ivS_10] at r_v21; exact r_v21
          · rw [aiv_kept, show 10 + p2_l1.toInt.toNat = 10 by omega, ivS_10] at s_v21; exact s_v21
        · rcases li_2_0 with hy | ⟨d, he, h1, h2⟩
          · exact Or.inl (by omega)
          · exact Or.inr ⟨d, u.2.2.1 _ _ _ he (Or.inr (by rw [e10]; omega)), h1, h2⟩
      exact ih_2 _ _ _ _ (by omega) ⟨w_1, v23, hw, hM, (by omega), (by omega), f_a0_X12_20, hli, (lv_sub hl [1, 0] rfl), rfl⟩
  have hli : dayOk ws f0 (0 : Int32) 0 := by
    exact Or.inl (by decide)
  exact J2 _ _ _ _ ⟨ws, 0, hw, hM, (by decide), (by decide), f_a0_X12_20, hli, (lv_sub hl [1, 0] rfl), rfl⟩
set_option maxHeartbeats 4000000 in
set_option maxRecDepth 100000 in
theorem t_X12_atMost (l : Launch) (dC : Nat → ClassId) (dI : Nat → Nat → Nat) (tys : List (ClassId × FieldType)) (κ : tK) (B : Nat) (ws : va_W) (hT : Ty κ tys B ws) (a0 : Int32) (a1 : Int32) (sz : Nat) : Met l yX12_atMost (ws_u yX12_atMost cX12_atMost 2 (some .int)) ({ frames := 0, cells := 0, slots := 0, locals := 0 }) (va_Pc [.int a0, .int a1] (cPre (dC, dI) tys ws sz)) (va_Qi (fun (r : Int32) (w : va_W) => Ty κ tys B w ∧ Sm [] [] κ ws w) (fun w t => cPost (dC, dI) tys w (va_A ws sz) t) (va_A ws sz)) 0 0 (va_A ws sz) := by
  refine Met.ofW (cc := cX12_atMost) (maxL := 2) (ret := (some .int)) (by decide) rfl ?_
  intro p e s m args below meth c s₁ B0 hml hv
  obtain ⟨rfl, hsz, hP, hK, hD0, hE⟩ := hv
  have hx := B0.exec
  have hb := B0.bytes
  have hr := B0.returns
  have hts0 := atoms_spec (ws := ws_u yX12_atMost cX12_atMost 2 (some .int)) B0.pre
  have hts : ∀ w ∈ gT, w.before _ s = true := fun w h => hts0 w (List.mem_cons_of_mem _ h)
  have hown : s.vm.findClass RX12 = some m.cls := findClass_of_methodNamed B0.named
  have hlocks := B0.notSynchronized
  subst hsz
  have hD := hD0.self (sz := s.heap.size)
  generalize hAe : va_A ws s.heap.size = A at hD ⊢
  have hA : ∀ q : Nat, s.heap.size ≤ q → A q := fun q h => by rw [← hAe]; exact Or.inr h
  have hw : tW (dC, dI) tys κ B A s ws s.heap [] := ⟨hK, hP, hD, va_S.rf, hT⟩
  have hM : Sm [] [] κ ws ws := Sm.rf
  clear hP hK hD hD0 hts0
  have l_a0 := i32_lo a0
  have h_a0 := i32_hi a0
  have l_a1 := i32_lo a1
  have h_a1 := i32_hi a1
  have hl := lv_entry ([.int a0, .int a1]) (n := 2) (Nat.le_of_ble_eq_true rfl)
  rw [lg_entry_eq]
  generalize (lg_sl ([.int a0, .int a1]) ++ List.replicate (2 - (lg_sl ([.int a0, .int a1])).length) Slot.unset).toArray = ls at hl ⊢
  have hl : lv_has ls 2 [(0, .int a0), (1, .int a1)] := hl
  refine t_start (fun QQ hQ => ?_)
  refine lv_iload_n hx hb dX12_atMost_0 rfl (lv_at hl 0 rfl) ?_
  refine lv_iload_n hx hb dX12_atMost_1 rfl (lv_at hl 1 rfl) ?_
  refine lv_icmp_le (tgt := 9) hx hb dX12_atMost_2 (by decide) (fun c_2 => ?_) (fun c_2 => ?_)
  · simp only [fa_lt, fa_le, fa_eq] at c_2
    refine lv_iload_n hx hb dX12_atMost_9 rfl (lv_at hl 0 rfl) ?_
    rw [hQ]
    refine W.widen (k := 0) (n := 0) (Nat.le_refl _) (Nat.le_refl _) ?_
    exact W.iret (v := a0) hx hb hr (fun t ht hW => ⟨⟨a0, ws, rfl, ⟨hw.2.2.2.2, hM⟩, by rw [ht]; exact hw.2.1, va_K.moved hW.alike hw.1, hw.2.2.1⟩, hw.2.2.2.1.F ht⟩) hw.2.2.2.1.2.2 dX12_atMost_10
  · simp only [fa_lt, fa_le, fa_eq] at c_2
    refine lv_iload_n hx hb dX12_atMost_5 rfl (lv_at hl 1 rfl) ?_
    refine lv_goto (tgt := 10) hx hb dX12_atMost_6 (by decide) ?_
    rw [hQ]
    refine W.widen (k := 0) (n := 0) (Nat.le_refl _) (Nat.le_refl _) ?_
    exact W.iret (v := a1) hx hb hr (fun t ht hW => ⟨⟨a1, ws, rfl, ⟨hw.2.2.2.2, hM⟩, by rw [ht]; exact hw.2.1, va_K.moved hW.alike hw.1, hw.2.2.1⟩, hw.2.2.2.1.F ht⟩) hw.2.2.2.1.2.2 dX12_atMost_10
set_option maxHeartbeats 4000000 in
set_option maxRecDepth 100000 in
theorem t_X12_breaksVoice (l : Launch) (dC : Nat → ClassId) (dI : Nat → Nat → Nat) (tys : List (ClassId × FieldType)) (κ : tK) (B : Nat) (ws : va_W) (hT : Ty κ tys B ws) (a0 : Nat) (k_a0 : κ a0 = some 12) (a1 : Int32) (l_a1 : 0 ≤ a1.toInt) (h_a1 : a1.toInt ≤ 5) (f0 : Nat) (k_f0 : κ f0 = some 63) (f_a0_X12_20 : fld ws a0 12 20 (.ref f0)) (f1 : Int32) (l_f1 : 0 ≤ f1.toInt) (h_f1 : f1.toInt ≤ 1999) (f_f0_M_said_10 : elt ws f0 (10 : Int32).toInt.toNat f1) (sz : Nat) : Met l yX12_breaksVoice (ws_u yX12_breaksVoice cX12_breaksVoice 2 none) ({ frames := 0, cells := 0, slots := 0, locals := 0 }) (va_Pc [.ref a0, .int a1] (cPre (dC, dI) tys ws sz)) (va_Qv (fun (w : va_W) => Ty κ tys B w ∧ Sm [] [63] κ ws w ∧ elt w f0 (10 : Int32).toInt.toNat f1) (fun w t => cPost (dC, dI) tys w (va_A ws sz) t) (va_A ws sz)) 0 0 (va_A ws sz) := by
  refine Met.ofW (cc := cX12_breaksVoice) (maxL := 2) (ret := none) (by decide) rfl ?_
  intro p e s m args below meth c s₁ B0 hml hv
  obtain ⟨rfl, hsz, hP, hK, hD0, hE⟩ := hv
  have hx := B0.exec
  have hb := B0.bytes
  have hr := B0.returns
  have hts0 := atoms_spec (ws := ws_u yX12_breaksVoice cX12_breaksVoice 2 none) B0.pre
  have hts : ∀ w ∈ gT, w.before _ s = true := fun w h => hts0 w (List.mem_cons_of_mem _ h)
  have hown : s.vm.findClass RX12 = some m.cls := findClass_of_methodNamed B0.named
  have hlocks := B0.notSynchronized
  subst hsz
  have hD := hD0.self (sz := s.heap.size)
  generalize hAe : va_A ws s.heap.size = A at hD ⊢
  have hA : ∀ q : Nat, s.heap.size ≤ q → A q := fun q h => by rw [← hAe]; exact Or.inr h
  have hw : tW (dC, dI) tys κ B A s ws s.heap [] := ⟨hK, hP, hD, va_S.rf, hT⟩
  have hM : Sm [] [63] κ ws ws := Sm.rf
  clear hP hK hD hD0 hts0
  have hl := lv_entry ([.ref a0, .int a1]) (n := 2) (Nat.le_of_ble_eq_true rfl)
  rw [lg_entry_eq]
  generalize (lg_sl ([.ref a0, .int a1]) ++ List.replicate (2 - (lg_sl ([.ref a0, .int a1])).length) Slot.unset).toArray = ls at hl ⊢
  have hl : lv_has ls 2 [(0, .ref a0), (1, .int a1)] := hl
  refine t_start (fun QQ hQ => ?_)
  refine lv_aload_n hx hb dX12_breaksVoice_0 rfl (lv_at hl 0 rfl) ?_
  refine t_getk (ci := 12) (C := RX12) (T := TX12) (N := 38) hx hb hts iX12 hown hw rfl 20 (by decide) (hts _ tw_1145) (fun _ h9 => h9) dX12_breaksVoice_1 f_a0_X12_20 ?_
  refine lv_bipush (v := 16) hx hb dX12_breaksVoice_4 (by decide) ?_
  refine lv_iconst (v := 3) hx hb dX12_breaksVoice_6 (by decide) ?_
  refine lv_iload_n hx hb dX12_breaksVoice_7 rfl (lv_at hl 1 rfl) ?_
  refine lv_imul hx hb dX12_breaksVoice_8 ?_
  refine lv_topi (fun v8 e_v8 => ?_)
  have e_v8 : v8.toInt = 3 * a1.toInt := ml_i e_v8 li_3 rfl (by omega) (by omega)
  refine lv_iadd hx hb dX12_breaksVoice_9 ?_
  refine lv_topi (fun v9 e_v9 => ?_)
  have e_v9 : v9.toInt = 16 + v8.toInt := ad_i e_v9 li_16 rfl (by omega) (by omega)
  refine lv_iconst (v := 0) hx hb dX12_breaksVoice_10 (by decide) ?_
  refine t_iast hx hb hw k_f0 rfl rfl (by omega) (show v9.toInt < 306 by omega) (by rw [fr_63 (by omega) (by omega)]; exact i32_lo _) (by rw [fr_63 (by omega) (by omega)]; exact i32_hi _) dX12_breaksVoice_11 (fun w_1 H locs hw u => ?_)
  have hM := hM.up3 u k_f0 (by decide)
  have f_a0_X12_20 := u.1 _ _ _ _ f_a0_X12_20
  have f_f0_M_said_10 := u.2.2.1 _ _ _ f_f0_M_said_10 (Or.inr (by rw [show (10 : Int32).toInt.toNat = 10 by decide]; omega))
  rw [hQ]
  refine W.widen (k := 0) (n := 0) (Nat.le_refl _) (Nat.le_refl _) ?_
  exact W.vret hx hb hr (fun t ht hW => ⟨⟨w_1, rfl, ⟨hw.2.2.2.2, hM, f_f0_M_said_10⟩, by rw [ht]; exact hw.2.1, va_K.moved hW.alike hw.1, hw.2.2.1⟩, hw.2.2.2.1.F ht⟩) hw.2.2.2.1.2.2 dX12_breaksVoice_12
set_option maxHeartbeats 4000000 in
set_option maxRecDepth 100000 in
theorem t_X12_isSound (l : Launch) (dC : Nat → ClassId) (dI : Nat → Nat → Nat) (tys : List (ClassId × FieldType)) (κ : tK) (B : Nat) (ws : va_W) (hT : Ty κ tys B ws) (a0 : Nat) (k_a0 : κ a0 = some 12) (a1 : Int32) (sz : Nat) : Met l yX12_isSound (ws_u yX12_isSound cX12_isSound 2 (some .boolean)) ({ frames := 1, cells := 0, slots := 0, locals := 22 }) (va_Pc [.ref a0, .int a1] (cPre (dC, dI) tys ws sz)) (va_Qi (fun (r : Int32) (w : va_W) => 0 ≤ r.toInt ∧ r.toInt ≤ 1 ∧ Ty κ tys B w ∧ Sm [] [] κ ws w ∧ (r.toInt = 0 ∨ 0 ≤ a1.toInt ∧ a1.toInt ≤ 5)) (fun w t => cPost (dC, dI) tys w (va_A ws sz) t) (va_A ws sz)) 0 0 (va_A ws sz) := by
  refine Met.ofW (cc := cX12_isSound) (maxL := 2) (ret := (some .boolean)) (by decide) rfl ?_
  intro p e s m args below meth c s₁ B0 hml hv
  obtain ⟨rfl, hsz, hP, hK, hD0, hE⟩ := hv
  have hx := B0.exec
  have hb := B0.bytes
  have hr := B0.returns
  have hts0 := atoms_spec (ws := ws_u yX12_isSound cX12_isSound 2 (some .boolean)) B0.pre
  have hts : ∀ w ∈ gT, w.before _ s = true := fun w h => hts0 w (List.mem_cons_of_mem _ h)
  have hown : s.vm.findClass RX12 = some m.cls := findClass_of_methodNamed B0.named
  have hlocks := B0.notSynchronized
  subst hsz
  have hD := hD0.self (sz := s.heap.size)
  generalize hAe : va_A ws s.heap.size = A at hD ⊢
  have hA : ∀ q : Nat, s.heap.size ≤ q → A q := fun q h => by rw [← hAe]; exact Or.inr h
  have hw : tW (dC, dI) tys κ B A s ws s.heap [] := ⟨hK, hP, hD, va_S.rf, hT⟩
  have hM : Sm [] [] κ ws ws := Sm.rf
  clear hP hK hD hD0 hts0
  have l_a1 := i32_lo a1
  have h_a1 := i32_hi a1
  have hl := lv_entry ([.ref a0, .int a1]) (n := 2) (Nat.le_of_ble_eq_true rfl)
  rw [lg_entry_eq]
  generalize (lg_sl ([.ref a0, .int a1]) ++ List.replicate (2 - (lg_sl ([.ref a0, .int a1])).length) Slot.unset).toArray = ls at hl ⊢
  have hl : lv_has ls 2 [(0, .ref a0), (1, .int a1)] := hl
  refine t_start (fun QQ hQ => ?_)
  refine lv_aload_n hx hb dX12_isSound_0 rfl (lv_at hl 0 rfl) ?_
  refine lv_iload_n hx hb dX12_isSound_1 rfl (lv_at hl 1 rfl) ?_
  refine t_calli (va_runV (As := [.int a1]) (rest := []) ⟨hx, hb, hml, hown, hts⟩ (t_X12_isBoy l dC dI tys κ B ws hw.2.2.2.2 a0 k_a0 a1 s.heap.size) (cwV 1 hts (gUV tw_1448 tw_1450 ts_5_7 tw_13 tw_1451) rfl rfl rfl (by decide +kernel) ⟨(Nat.le_of_ble_eq_true rfl), (Nat.le_of_ble_eq_true rfl)⟩) ⟨cPre.blind, t_recv hw (ci := 12) k_a0 rfl rfl, cPre.use hw.2.1 hw.1 hw.2.2.1 hE⟩ rfl rfl hl.1 rfl (lv_room (Nat.le_of_ble_eq_true rfl)) dX12_isSound_2 ⟨(Nat.le_of_ble_eq_true rfl), (Nat.le_of_ble_eq_true rfl)⟩) hw hA (fun _ _ h => h.2.2.1) (fun v2 w_1 H locs hp hw => ?_)
  obtain ⟨l_v2, h_v2, _, hm, x_v2_0⟩ := hp
  have hM := hM.trans hm (by decide) (by decide)
  refine lv_if_eq (tgt := 21) hx hb dX12_isSound_5 (by decide) (fun c_5 => ?_) (fun c_5 => ?_)
  · simp only [fa_lt, fa_le, fa_eq, li_0] at c_5
    refine lv_iconst (v := 0) hx hb dX12_isSound_21 (by decide) ?_
    rw [hQ]
    refine W.widen (k := 0) (n := 0) (Nat.le_refl _) (Nat.le_refl _) ?_
    exact W.zret (v := 0) hx hb hr rfl (fun t ht hW => ⟨⟨0, w_1, rfl, ⟨(by decide), (by decide), hw.2.2.2.2, hM, (by have := li_0; omega)⟩, by rw [ht]; exact hw.2.1, va_K.moved hW.alike hw.1, hw.2.2.1⟩, hw.2.2.2.1.F ht⟩) hw.2.2.2.1.2.2 dX12_isSound_22
  · simp only [fa_lt, fa_le, fa_eq, li_0] at c_5
    refine lv_aload_n hx hb dX12_isSound_8 rfl (lv_at hl 0 rfl) ?_
    refine lv_iload_n hx hb dX12_isSound_9 rfl (lv_at hl 1 rfl) ?_
    refine lv_iconst (v := 0) hx hb dX12_isSound_10 (by decide) ?_
    refine t_calli (va_runV (As := [.int a1, .int 0]) (rest := []) ⟨hx, hb, hml, hown, hts⟩ (t_X12_boyOf l dC dI tys κ B w_1 hw.2.2.2.2 a0 k_a0 a1 (by omega) (by omega) 0 (by decide) (by decide) H.size) (cwV 2 hts (gUV tw_1453 tw_1455 ts_5_8 tw_13 tw_1456) rfl rfl rfl (by decide +kernel) ⟨(Nat.le_of_ble_eq_true rfl), (Nat.le_of_ble_eq_true rfl)⟩) ⟨cPre.blind, t_recv hw (ci := 12) k_a0 rfl rfl, cPre.use hw.2.1 hw.1 hw.2.2.1 hE⟩ rfl rfl hl.1 rfl (lv_room (Nat.le_of_ble_eq_true rfl)) dX12_isSound_11 ⟨(Nat.le_of_ble_eq_true rfl), (Nat.le_of_ble_eq_true rfl)⟩) hw hA (fun _ _ h => h.1) (fun v11 w_2 H locs hp hw => ?_)
    obtain ⟨_, hm⟩ := hp
    have l_v11 := i32_lo v11
    have h_v11 := i32_hi v11
    have hM := hM.trans hm (by decide) (by decide)
    refine lv_if_le (tgt := 21) hx hb dX12_isSound_14 (by decide) (fun c_14 => ?_) (fun c_14 => ?_)
    · simp only [fa_lt, fa_le, fa_eq, li_0] at c_14
      refine lv_iconst (v := 0) hx hb dX12_isSound_21 (by decide) ?_
      rw [hQ]
      refine W.widen (k := 0) (n := 0) (Nat.le_refl _) (Nat.le_refl _) ?_
      exact W.zret (v := 0) hx hb hr rfl (fun t ht hW => ⟨⟨0, w_2, rfl, ⟨(by decide), (by decide), hw.2.2.2.2, hM, (by have := li_0; omega)⟩, by rw [ht]; exact hw.2.1, va_K.moved hW.alike hw.1, hw.2.2.1⟩, hw.2.2.2.1.F ht⟩) hw.2.2.2.1.2.2 dX12_isSound_22
    · simp only [fa_lt, fa_le, fa_eq, li_0] at c_14
      refine lv_iconst (v := 1) hx hb dX12_isSound_17 (by decide) ?_
      refine lv_goto (tgt := 22) hx hb dX12_isSound_18 (by decide) ?_
      rw [hQ]
      refine W.widen (k := 0) (n := 0) (Nat.le_refl _) (Nat.le_refl _) ?_
      exact W.zret (v := 1) hx hb hr rfl (fun t ht hW => ⟨⟨1, w_2, rfl, ⟨(by decide), (by decide), hw.2.2.2.2, hM, (by have := li_1; omega)⟩, by rw [ht]; exact hw.2.1, va_K.moved hW.alike hw.1, hw.2.2.1⟩, hw.2.2.2.1.F ht⟩) hw.2.2.2.1.2.2 dX12_isSound_22
set_option maxHeartbeats 4000000 in
set_option maxRecDepth 100000 in
theorem t_X12_soundMany (l : Launch) (dC : Nat → ClassId) (dI : Nat → Nat → Nat) (tys : List (ClassId × FieldType)) (κ : tK) (B : Nat) (ws : va_W) (hT : Ty κ tys B ws) (a0 : Nat) (k_a0 : κ a0 = some 12) (sz : Nat) : Met l yX12_soundMany (ws_u yX12_soundMany cX12_soundMany 3 (some .int)) ({ frames := 2, cells := 0, slots := 0, locals := 43 }) (va_Pc [.ref a0] (cPre (dC, dI) tys ws sz)) (va_Qi (fun (r : Int32) (w : va_W) => Ty κ tys B w ∧ Sm [] [] κ ws w) (fun w t => cPost (dC, dI) tys w (va_A ws sz) t) (va_A ws sz)) 0 0 (va_A ws sz) := by
  refine Met.ofW (cc := cX12_soundMany) (maxL := 3) (ret := (some .int)) (by decide) rfl ?_
  intro p e s m args below meth c s₁ B0 hml hv
  obtain ⟨rfl, hsz, hP, hK, hD0, hE⟩ := hv
  have hx := B0.exec
  have hb := B0.bytes
  have hr := B0.returns
  have hts0 := atoms_spec (ws := ws_u yX12_soundMany cX12_soundMany 3 (some .int)) B0.pre
  have hts : ∀ w ∈ gT, w.before _ s = true := fun w h => hts0 w (List.mem_cons_of_mem _ h)
  have hown : s.vm.findClass RX12 = some m.cls := findClass_of_methodNamed B0.named
  have hlocks := B0.notSynchronized
  subst hsz
  have hD := hD0.self (sz := s.heap.size)
  generalize hAe : va_A ws s.heap.size = A at hD ⊢
  have hA : ∀ q : Nat, s.heap.size ≤ q → A q := fun q h => by rw [← hAe]; exact Or.inr h
  have hw : tW (dC, dI) tys κ B A s ws s.heap [] := ⟨hK, hP, hD, va_S.rf, hT⟩
  have hM : Sm [] [] κ ws ws := Sm.rf
  clear hP hK hD hD0 hts0
  have hl := lv_entry ([.ref a0]) (n := 3) (Nat.le_of_ble_eq_true rfl)
  rw [lg_entry_eq]
  generalize (lg_sl ([.ref a0]) ++ List.replicate (3 - (lg_sl ([.ref a0])).length) Slot.unset).toArray = ls at hl ⊢
  have hl : lv_has ls 3 [(0, .ref a0)] := hl
  refine t_start (fun QQ hQ => ?_)
  refine lv_iconst (v := 0) hx hb dX12_soundMany_0 (by decide) ?_
  refine lv_istore_n (lv' := [(1, .int 0), (0, .ref a0)]) hx hb dX12_soundMany_1 rfl hl (by decide) rfl (fun ls hl => ?_)
  refine lv_iconst (v := 0) hx hb dX12_soundMany_2 (by decide) ?_
  refine lv_istore_n (lv' := [(2, .int 0), (1, .int 0), (0, .ref a0)]) hx hb dX12_soundMany_3 rfl hl (by decide) rfl (fun ls hl => ?_)
  have J4 : ∀ (n : Nat) (H : Heap) (locs : List Loc) (ls : Array Slot), (∃ (w4 : va_W) (p4_l1 : Int32) (p4_l2 : Int32), tW (dC, dI) tys κ B A s w4 H locs ∧ Sm [] [] κ ws w4 ∧ (-2147483648) ≤ p4_l1.toInt ∧ p4_l1.toInt ≤ 2147483647 ∧ 0 ≤ p4_l2.toInt ∧ p4_l2.toInt ≤ 6 ∧ lv_has ls 3 [(0, .ref a0), (1, .int p4_l1), (2, .int p4_l2)] ∧ (6 - p4_l2.toInt).toNat = n) → W p l e (headSpec (ws_u yX12_soundMany cX12_soundMany 3 (some .int)) ({ frames := 2, cells := 0, slots := 0, locals := 43 })).room s m ([.ref a0] : List Value).toArray below meth c H locs 0 0 QQ (F0 m 4 ls []) := by
    refine loopT _ ?_
    intro n_4 H locs ls hI ih_4
    obtain ⟨w4, p4_l1, p4_l2, hw, hM, l_p4_l1, h_p4_l1, l_p4_l2, h_p4_l2, hl, hn_4⟩ := hI
    refine lv_iload_n hx hb dX12_soundMany_4 rfl (lv_at hl 2 rfl) ?_
    refine lv_aload_n hx hb dX12_soundMany_5 rfl (lv_at hl 0 rfl) ?_
    refine t_getr (k1 := 63) (ci := 12) (C := RX12) (T := TX12) (N := 38) hx hb hts iX12 hown hw k_a0 rfl rfl rfl 20 (by decide) (hts _ tw_1145) (fun _ h9 => h9) dX12_soundMany_6 rfl (fun v6 k_v6 f_a0_X12_20 => ?_)
    refine lv_iconst (v := 3) hx hb dX12_soundMany_9 (by decide) ?_
    refine t_iald hx hb hw k_v6 rfl rfl (by decide) (by decide) dX12_soundMany_10 (fun v10 r_v10 s_v10 f_v6_M_said_3 => ?_)
    have l_v10 : 0 ≤ v10.toInt := by rw [iv_63_3] at r_v10; exact r_v10
    have h_v10 : v10.toInt ≤ 6 := by rw [iv_63_3] at s_v10; exact s_v10
    refine lv_icmp_ge (tgt := 36) hx hb dX12_soundMany_11 (by decide) (fun c_11 => ?_) (fun c_11 => ?_)
    · simp only [fa_lt, fa_le, fa_eq] at c_11
      refine lv_iload_n hx hb dX12_soundMany_36 rfl (lv_at hl 1 rfl) ?_
      rw [hQ]
      refine W.widen (k := 0) (n := 0) (Nat.le_refl _) (Nat.le_refl _) ?_
      exact W.iret (v := p4_l1) hx hb hr (fun t ht hW => ⟨⟨p4_l1, w4, rfl, ⟨hw.2.2.2.2, hM⟩, by rw [ht]; exact hw.2.1, va_K.moved hW.alike hw.1, hw.2.2.1⟩, hw.2.2.2.1.F ht⟩) hw.2.2.2.1.2.2 dX12_soundMany_37
    · simp only [fa_lt, fa_le, fa_eq] at c_11
      refine lv_iload_n hx hb dX12_soundMany_14 rfl (lv_at hl 1 rfl) ?_
      refine lv_aload_n hx hb dX12_soundMany_15 rfl (lv_at hl 0 rfl) ?_
      refine lv_iload_n hx hb dX12_soundMany_16 rfl (lv_at hl 2 rfl) ?_
      refine t_calli (va_runV (As := [.int p4_l2]) (rest := [.int p4_l1]) ⟨hx, hb, hml, hown, hts⟩ (t_X12_isSound l dC dI tys κ B w4 hw.2.2.2.2 a0 k_a0 p4_l2 H.size) (cwV 1 hts (gUV tw_1517 tw_1519 ts_6_3 tw_13 tw_1520) rfl rfl rfl (by decide +kernel) ⟨(Nat.le_of_ble_eq_true rfl), (Nat.le_of_ble_eq_true rfl)⟩) ⟨cPre.blind, t_recv hw (ci := 12) k_a0 rfl rfl, cPre.use hw.2.1 hw.1 hw.2.2.1 hE⟩ rfl rfl hl.1 rfl (lv_room (Nat.le_of_ble_eq_true rfl)) dX12_soundMany_17 ⟨(Nat.le_of_ble_eq_true rfl), (Nat.le_of_ble_eq_true rfl)⟩) hw hA (fun _ _ h => h.2.2.1) (fun v17 w_1 H locs hp hw => ?_)
      obtain ⟨l_v17, h_v17, _, hm, x_v17_0⟩ := hp
      have hM := hM.trans hm (by decide) (by decide)
      have f_a0_X12_20 := hm.1 _ _ _ _ f_a0_X12_20 (by decide)
      have f_v6_M_said_3 := hm.elt k_v6 (by decide) f_v6_M_said_3
      have J28 : ∀ (H : Heap) (locs : List Loc) (ls : Array Slot) (w28 : va_W) (p28_s0 : Int32), tW (dC, dI) tys κ B A s w28 H locs → Sm [] [] κ ws w28 → 0 ≤ p28_s0.toInt → p28_s0.toInt ≤ 1 → fld w28 a0 12 20 (.ref v6) → elt w28 v6 (3 : Int32).toInt.toNat v10 → lv_has ls 3 [(0, .ref a0), (1, .int p4_l1), (2, .int p4_l2)] → W p l e (headSpec (ws_u yX12_soundMany cX12_soundMany 3 (some .int)) ({ frames := 2, cells := 0, slots := 0, locals := 43 })).room s m ([.ref a0] : List Value).toArray below meth c H locs 0 0 QQ (F0 m 28 ls [.int p28_s0, .int p4_l1]) := by
        intro H locs ls w28 p28_s0 hw hM l_p28_s0 h_p28_s0 f_a0_X12_20 f_v6_M_said_3 hl
        refine lv_iadd hx hb dX12_soundMany_28 ?_
        refine lv_topi (fun v28 e_v28 => ?_)
        have l_v28 := i32_lo v28
        have h_v28 := i32_hi v28
        refine lv_istore_n (lv' := [(1, .int v28), (0, .ref a0), (2, .int p4_l2)]) hx hb dX12_soundMany_29 rfl hl (by decide) rfl (fun ls hl => ?_)
        obtain ⟨v30, e_v30⟩ : ∃ y : Int32, y = p4_l2 + 1 := ⟨_, rfl⟩
        refine lv_iinc (v := v30) (lv' := [(2, .int v30), (1, .int v28), (0, .ref a0)]) hx hb dX12_soundMany_30 hl (k := 2) rfl e_v30.symm (by decide) rfl (fun ls hl => ?_)
        have e_v30 : v30.toInt = p4_l2.toInt + 1 := ad_i e_v30 rfl li_1 (by omega) (by omega)
        refine lv_goto (tgt := 4) hx hb dX12_soundMany_33 (by decide) ?_
        exact ih_4 _ _ _ _ (by omega) ⟨w28, v28, v30, hw, hM, (by omega), (by omega), (by omega), (by omega), (lv_sub hl [2, 1, 0] rfl), rfl⟩
      refine lv_if_eq (tgt := 27) hx hb dX12_soundMany_20 (by decide) (fun c_20 => ?_) (fun c_20 => ?_)
      · simp only [fa_lt, fa_le, fa_eq, li_0] at c_20
        refine lv_iconst (v := 0) hx hb dX12_soundMany_27 (by decide) ?_
        exact J28 _ _ _ w_1 0 hw hM (by decide) (by decide) f_a0_X12_20 f_v6_M_said_3 (lv_sub hl [0, 1, 2] rfl)
      · simp only [fa_lt, fa_le, fa_eq, li_0] at c_20
        refine lv_iconst (v := 1) hx hb dX12_soundMany_23 (by decide) ?_
        refine lv_goto (tgt := 28) hx hb dX12_soundMany_24 (by decide) ?_
        exact J28 _ _ _ w_1 1 hw hM (by decide) (by decide) f_a0_X12_20 f_v6_M_said_3 (lv_sub hl [0, 1, 2] rfl)
  exact J4 _ _ _ _ ⟨ws, 0, 0, hw, hM, (by decide), (by decide), (by decide), (by decide), (lv_sub hl [2, 1, 0] rfl), rfl⟩
