theorem ts_5_14 : Cond.selects "BoyBishopModel" ⟨"BoyBishopModel", "passes", "()V"⟩ ⟨"BoyBishopModel", "passes", "()V"⟩ ∈ gT := gT_in (List.mem_append_left _ (List.mem_map.mpr ⟨(⟨"BoyBishopModel", "passes", "()V"⟩, 38), (List.mem_append_right _ (List.mem_append_right _ (List.mem_append_right _ (List.mem_append_right _ (List.mem_append_right _ (List.mem_append_left _ (List.mem_of_getElem? (i := 14) rfl))))))), rfl⟩)) rfl
theorem ts_5_15 : Cond.selects "BoyBishopModel" ⟨"BoyBishopModel", "elects", "()V"⟩ ⟨"BoyBishopModel", "elects", "()V"⟩ ∈ gT := gT_in (List.mem_append_left _ (List.mem_map.mpr ⟨(⟨"BoyBishopModel", "elects", "()V"⟩, 38), (List.mem_append_right _ (List.mem_append_right _ (List.mem_append_right _ (List.mem_append_right _ (List.mem_append_right _ (List.mem_append_left _ (List.mem_of_getElem? (i := 15) rfl))))))), rfl⟩)) rfl
theorem ts_6_0 : Cond.selects "BoyBishopModel" ⟨"BoyBishopModel", "chosen", "()I"⟩ ⟨"BoyBishopModel", "chosen", "()I"⟩ ∈ gT := gT_in (List.mem_append_left _ (List.mem_map.mpr ⟨(⟨"BoyBishopModel", "chosen", "()I"⟩, 38), (List.mem_append_right _ (List.mem_append_right _ (List.mem_append_right _ (List.mem_append_right _ (List.mem_append_right _ (List.mem_append_right _ (List.mem_append_left _ (List.mem_of_getElem? (i := 0) rfl)))))))), rfl⟩)) rfl
theorem ts_6_1 : Cond.selects "BoyBishopModel" ⟨"BoyBishopModel", "fillsVotes", "()V"⟩ ⟨"BoyBishopModel", "fillsVotes", "()V"⟩ ∈ gT := gT_in (List.mem_append_left _ (List.mem_map.mpr ⟨(⟨"BoyBishopModel", "fillsVotes", "()V"⟩, 38), (List.mem_append_right _ (List.mem_append_right _ (List.mem_append_right _ (List.mem_append_right _ (List.mem_append_right _ (List.mem_append_right _ (List.mem_append_left _ (List.mem_of_getElem? (i := 1) rfl)))))))), rfl⟩)) rfl
theorem ts_6_10 : Cond.selects "BoyBishopModel" ⟨"BoyBishopModel", "mostVoted", "()I"⟩ ⟨"BoyBishopModel", "mostVoted", "()I"⟩ ∈ gT := gT_in (List.mem_append_left _ (List.mem_map.mpr ⟨(⟨"BoyBishopModel", "mostVoted", "()I"⟩, 38), (List.mem_append_right _ (List.mem_append_right _ (List.mem_append_right _ (List.mem_append_right _ (List.mem_append_right _ (List.mem_append_right _ (List.mem_append_left _ (List.mem_of_getElem? (i := 10) rfl)))))))), rfl⟩)) rfl
theorem ts_6_14 : Cond.selects "BoyBishopModel" ⟨"BoyBishopModel", "agesAll", "()V"⟩ ⟨"BoyBishopModel", "agesAll", "()V"⟩ ∈ gT := gT_in (List.mem_append_left _ (List.mem_map.mpr ⟨(⟨"BoyBishopModel", "agesAll", "()V"⟩, 38), (List.mem_append_right _ (List.mem_append_right _ (List.mem_append_right _ (List.mem_append_right _ (List.mem_append_right _ (List.mem_append_right _ (List.mem_append_left _ (List.mem_of_getElem? (i := 14) rfl)))))))), rfl⟩)) rfl
theorem ts_7_0 : Cond.selects "BoyBishopModel" ⟨"BoyBishopModel", "keeps", "()V"⟩ ⟨"BoyBishopModel", "keeps", "()V"⟩ ∈ gT := gT_in (List.mem_append_left _ (List.mem_map.mpr ⟨(⟨"BoyBishopModel", "keeps", "()V"⟩, 38), (List.mem_append_right _ (List.mem_append_right _ (List.mem_append_right _ (List.mem_append_right _ (List.mem_append_right _ (List.mem_append_right _ (List.mem_append_right _ (List.mem_append_left _ (List.mem_of_getElem? (i := 0) rfl))))))))), rfl⟩)) rfl
theorem ts_7_1 : Cond.selects "BoyBishopModel" ⟨"BoyBishopModel", "laysBack", "()V"⟩ ⟨"BoyBishopModel", "laysBack", "()V"⟩ ∈ gT := gT_in (List.mem_append_left _ (List.mem_map.mpr ⟨(⟨"BoyBishopModel", "laysBack", "()V"⟩, 38), (List.mem_append_right _ (List.mem_append_right _ (List.mem_append_right _ (List.mem_append_right _ (List.mem_append_right _ (List.mem_append_right _ (List.mem_append_right _ (List.mem_append_left _ (List.mem_of_getElem? (i := 1) rfl))))))))), rfl⟩)) rfl
theorem ts_7_7 : Cond.selects "BoyBishopModel" ⟨"BoyBishopModel", "firstOf", "(II)I"⟩ ⟨"BoyBishopModel", "firstOf", "(II)I"⟩ ∈ gT := gT_in (List.mem_append_left _ (List.mem_map.mpr ⟨(⟨"BoyBishopModel", "firstOf", "(II)I"⟩, 38), (List.mem_append_right _ (List.mem_append_right _ (List.mem_append_right _ (List.mem_append_right _ (List.mem_append_right _ (List.mem_append_right _ (List.mem_append_right _ (List.mem_append_left _ (List.mem_of_getElem? (i := 7) rfl))))))))), rfl⟩)) rfl
theorem tw_1149 : (Jvm.Cond.fieldLink "BoyBishopModel" (358 : Nat) "BoyBishopModel" "votings" "I") ∈ gT := gT_in (List.mem_append_right _ (List.mem_append_right _ (List.mem_append_right _ (List.mem_append_right _ (List.mem_append_right _ (List.mem_append_left _ (List.mem_of_getElem? (i := 189) rfl))))))) rfl
theorem tw_1497 : (Jvm.Cond.methodLink "BoyBishopModel" (385 : Nat) ({ cls := "BoyBishopModel", name := "passes", desc := "()V" } : Jvm.MethodName)) ∈ gT := gT_in (List.mem_append_right _ (List.mem_append_right _ (List.mem_append_right _ (List.mem_append_right _ (List.mem_append_right _ (List.mem_append_right _ (List.mem_append_right _ (List.mem_append_left _ (List.mem_of_getElem? (i := 57) rfl))))))))) rfl
theorem tw_1499 : (Jvm.Cond.instanceMethod ({ cls := "BoyBishopModel", name := "passes", desc := "()V" } : Jvm.MethodName)) ∈ gT := gT_in (List.mem_append_right _ (List.mem_append_right _ (List.mem_append_right _ (List.mem_append_right _ (List.mem_append_right _ (List.mem_append_right _ (List.mem_append_right _ (List.mem_append_left _ (List.mem_of_getElem? (i := 59) rfl))))))))) rfl
theorem tw_1500 : (Jvm.Cond.code ({ cls := "BoyBishopModel", name := "passes", desc := "()V" } : Jvm.MethodName) prog_14_method_79_code (2 : Nat) (Option.none : Option Jvm.ClassFile.FieldType)) ∈ gT := gT_in (List.mem_append_right _ (List.mem_append_right _ (List.mem_append_right _ (List.mem_append_right _ (List.mem_append_right _ (List.mem_append_right _ (List.mem_append_right _ (List.mem_append_left _ (List.mem_of_getElem? (i := 60) rfl))))))))) rfl
theorem tw_1501 : (Jvm.Cond.methodLink "BoyBishopModel" (364 : Nat) ({ cls := "BoyBishopModel", name := "elects", desc := "()V" } : Jvm.MethodName)) ∈ gT := gT_in (List.mem_append_right _ (List.mem_append_right _ (List.mem_append_right _ (List.mem_append_right _ (List.mem_append_right _ (List.mem_append_right _ (List.mem_append_right _ (List.mem_append_left _ (List.mem_of_getElem? (i := 61) rfl))))))))) rfl
theorem tw_1503 : (Jvm.Cond.instanceMethod ({ cls := "BoyBishopModel", name := "elects", desc := "()V" } : Jvm.MethodName)) ∈ gT := gT_in (List.mem_append_right _ (List.mem_append_right _ (List.mem_append_right _ (List.mem_append_right _ (List.mem_append_right _ (List.mem_append_right _ (List.mem_append_right _ (List.mem_append_left _ (List.mem_of_getElem? (i := 63) rfl))))))))) rfl
theorem tw_1504 : (Jvm.Cond.code ({ cls := "BoyBishopModel", name := "elects", desc := "()V" } : Jvm.MethodName) prog_14_method_77_code (2 : Nat) (Option.none : Option Jvm.ClassFile.FieldType)) ∈ gT := gT_in (List.mem_append_right _ (List.mem_append_right _ (List.mem_append_right _ (List.mem_append_right _ (List.mem_append_right _ (List.mem_append_right _ (List.mem_append_right _ (List.mem_append_left _ (List.mem_of_getElem? (i := 64) rfl))))))))) rfl
theorem tw_1505 : (Jvm.Cond.methodLink "BoyBishopModel" (355 : Nat) ({ cls := "BoyBishopModel", name := "chosen", desc := "()I" } : Jvm.MethodName)) ∈ gT := gT_in (List.mem_append_right _ (List.mem_append_right _ (List.mem_append_right _ (List.mem_append_right _ (List.mem_append_right _ (List.mem_append_right _ (List.mem_append_right _ (List.mem_append_left _ (List.mem_of_getElem? (i := 65) rfl))))))))) rfl
theorem tw_1507 : (Jvm.Cond.instanceMethod ({ cls := "BoyBishopModel", name := "chosen", desc := "()I" } : Jvm.MethodName)) ∈ gT := gT_in (List.mem_append_right _ (List.mem_append_right _ (List.mem_append_right _ (List.mem_append_right _ (List.mem_append_right _ (List.mem_append_right _ (List.mem_append_right _ (List.mem_append_left _ (List.mem_of_getElem? (i := 67) rfl))))))))) rfl
theorem tw_1508 : (Jvm.Cond.code ({ cls := "BoyBishopModel", name := "chosen", desc := "()I" } : Jvm.MethodName) prog_14_method_75_code (1 : Nat) (Option.some Jvm.ClassFile.FieldType.int)) ∈ gT := gT_in (List.mem_append_right _ (List.mem_append_right _ (List.mem_append_right _ (List.mem_append_right _ (List.mem_append_right _ (List.mem_append_right _ (List.mem_append_right _ (List.mem_append_left _ (List.mem_of_getElem? (i := 68) rfl))))))))) rfl
theorem tw_1509 : (Jvm.Cond.methodLink "BoyBishopModel" (349 : Nat) ({ cls := "BoyBishopModel", name := "fillsVotes", desc := "()V" } : Jvm.MethodName)) ∈ gT := gT_in (List.mem_append_right _ (List.mem_append_right _ (List.mem_append_right _ (List.mem_append_right _ (List.mem_append_right _ (List.mem_append_right _ (List.mem_append_right _ (List.mem_append_left _ (List.mem_of_getElem? (i := 69) rfl))))))))) rfl
theorem tw_1511 : (Jvm.Cond.instanceMethod ({ cls := "BoyBishopModel", name := "fillsVotes", desc := "()V" } : Jvm.MethodName)) ∈ gT := gT_in (List.mem_append_right _ (List.mem_append_right _ (List.mem_append_right _ (List.mem_append_right _ (List.mem_append_right _ (List.mem_append_right _ (List.mem_append_right _ (List.mem_append_left _ (List.mem_of_getElem? (i := 71) rfl))))))))) rfl
theorem tw_1512 : (Jvm.Cond.code ({ cls := "BoyBishopModel", name := "fillsVotes", desc := "()V" } : Jvm.MethodName) prog_14_method_72_code (2 : Nat) (Option.none : Option Jvm.ClassFile.FieldType)) ∈ gT := gT_in (List.mem_append_right _ (List.mem_append_right _ (List.mem_append_right _ (List.mem_append_right _ (List.mem_append_right _ (List.mem_append_right _ (List.mem_append_right _ (List.mem_append_left _ (List.mem_of_getElem? (i := 72) rfl))))))))) rfl
theorem tw_1548 : (Jvm.Cond.methodLink "BoyBishopModel" (352 : Nat) ({ cls := "BoyBishopModel", name := "mostVoted", desc := "()I" } : Jvm.MethodName)) ∈ gT := gT_in (List.mem_append_right _ (List.mem_append_right _ (List.mem_append_right _ (List.mem_append_right _ (List.mem_append_right _ (List.mem_append_right _ (List.mem_append_right _ (List.mem_append_left _ (List.mem_of_getElem? (i := 108) rfl))))))))) rfl
theorem tw_1550 : (Jvm.Cond.instanceMethod ({ cls := "BoyBishopModel", name := "mostVoted", desc := "()I" } : Jvm.MethodName)) ∈ gT := gT_in (List.mem_append_right _ (List.mem_append_right _ (List.mem_append_right _ (List.mem_append_right _ (List.mem_append_right _ (List.mem_append_right _ (List.mem_append_right _ (List.mem_append_left _ (List.mem_of_getElem? (i := 110) rfl))))))))) rfl
theorem tw_1551 : (Jvm.Cond.code ({ cls := "BoyBishopModel", name := "mostVoted", desc := "()I" } : Jvm.MethodName) prog_14_method_74_code (4 : Nat) (Option.some Jvm.ClassFile.FieldType.int)) ∈ gT := gT_in (List.mem_append_right _ (List.mem_append_right _ (List.mem_append_right _ (List.mem_append_right _ (List.mem_append_right _ (List.mem_append_right _ (List.mem_append_right _ (List.mem_append_left _ (List.mem_of_getElem? (i := 111) rfl))))))))) rfl
theorem tw_1567 : (Jvm.Cond.methodLink "BoyBishopModel" (376 : Nat) ({ cls := "BoyBishopModel", name := "agesAll", desc := "()V" } : Jvm.MethodName)) ∈ gT := gT_in (List.mem_append_right _ (List.mem_append_right _ (List.mem_append_right _ (List.mem_append_right _ (List.mem_append_right _ (List.mem_append_right _ (List.mem_append_right _ (List.mem_append_left _ (List.mem_of_getElem? (i := 127) rfl))))))))) rfl
theorem tw_1569 : (Jvm.Cond.instanceMethod ({ cls := "BoyBishopModel", name := "agesAll", desc := "()V" } : Jvm.MethodName)) ∈ gT := gT_in (List.mem_append_right _ (List.mem_append_right _ (List.mem_append_right _ (List.mem_append_right _ (List.mem_append_right _ (List.mem_append_right _ (List.mem_append_right _ (List.mem_append_left _ (List.mem_of_getElem? (i := 129) rfl))))))))) rfl
theorem tw_1570 : (Jvm.Cond.code ({ cls := "BoyBishopModel", name := "agesAll", desc := "()V" } : Jvm.MethodName) prog_14_method_78_code (2 : Nat) (Option.none : Option Jvm.ClassFile.FieldType)) ∈ gT := gT_in (List.mem_append_right _ (List.mem_append_right _ (List.mem_append_right _ (List.mem_append_right _ (List.mem_append_right _ (List.mem_append_right _ (List.mem_append_right _ (List.mem_append_left _ (List.mem_of_getElem? (i := 130) rfl))))))))) rfl
theorem tw_1598 : (Jvm.Cond.methodLink "BoyBishopModel" (394 : Nat) ({ cls := "BoyBishopModel", name := "keeps", desc := "()V" } : Jvm.MethodName)) ∈ gT := gT_in (List.mem_append_right _ (List.mem_append_right _ (List.mem_append_right _ (List.mem_append_right _ (List.mem_append_right _ (List.mem_append_right _ (List.mem_append_right _ (List.mem_append_left _ (List.mem_of_getElem? (i := 158) rfl))))))))) rfl
theorem tw_1600 : (Jvm.Cond.instanceMethod ({ cls := "BoyBishopModel", name := "keeps", desc := "()V" } : Jvm.MethodName)) ∈ gT := gT_in (List.mem_append_right _ (List.mem_append_right _ (List.mem_append_right _ (List.mem_append_right _ (List.mem_append_right _ (List.mem_append_right _ (List.mem_append_right _ (List.mem_append_left _ (List.mem_of_getElem? (i := 160) rfl))))))))) rfl
theorem tw_1601 : (Jvm.Cond.code ({ cls := "BoyBishopModel", name := "keeps", desc := "()V" } : Jvm.MethodName) prog_14_method_87_code (2 : Nat) (Option.none : Option Jvm.ClassFile.FieldType)) ∈ gT := gT_in (List.mem_append_right _ (List.mem_append_right _ (List.mem_append_right _ (List.mem_append_right _ (List.mem_append_right _ (List.mem_append_right _ (List.mem_append_right _ (List.mem_append_left _ (List.mem_of_getElem? (i := 161) rfl))))))))) rfl
theorem tw_1602 : (Jvm.Cond.methodLink "BoyBishopModel" (397 : Nat) ({ cls := "BoyBishopModel", name := "laysBack", desc := "()V" } : Jvm.MethodName)) ∈ gT := gT_in (List.mem_append_right _ (List.mem_append_right _ (List.mem_append_right _ (List.mem_append_right _ (List.mem_append_right _ (List.mem_append_right _ (List.mem_append_right _ (List.mem_append_left _ (List.mem_of_getElem? (i := 162) rfl))))))))) rfl
theorem tw_1604 : (Jvm.Cond.instanceMethod ({ cls := "BoyBishopModel", name := "laysBack", desc := "()V" } : Jvm.MethodName)) ∈ gT := gT_in (List.mem_append_right _ (List.mem_append_right _ (List.mem_append_right _ (List.mem_append_right _ (List.mem_append_right _ (List.mem_append_right _ (List.mem_append_right _ (List.mem_append_left _ (List.mem_of_getElem? (i := 164) rfl))))))))) rfl
theorem tw_1605 : (Jvm.Cond.code ({ cls := "BoyBishopModel", name := "laysBack", desc := "()V" } : Jvm.MethodName) prog_14_method_88_code (2 : Nat) (Option.none : Option Jvm.ClassFile.FieldType)) ∈ gT := gT_in (List.mem_append_right _ (List.mem_append_right _ (List.mem_append_right _ (List.mem_append_right _ (List.mem_append_right _ (List.mem_append_right _ (List.mem_append_right _ (List.mem_append_left _ (List.mem_of_getElem? (i := 165) rfl))))))))) rfl
theorem tw_1634 : (Jvm.Cond.methodLink "BoyBishopModel" (409 : Nat) ({ cls := "BoyBishopModel", name := "bits", desc := "(I)I" } : Jvm.MethodName)) ∈ gT := gT_in (List.mem_append_right _ (List.mem_append_right _ (List.mem_append_right _ (List.mem_append_right _ (List.mem_append_right _ (List.mem_append_right _ (List.mem_append_right _ (List.mem_append_left _ (List.mem_of_getElem? (i := 194) rfl))))))))) rfl
theorem tw_1635 : (Jvm.Cond.static ({ cls := "BoyBishopModel", name := "bits", desc := "(I)I" } : Jvm.MethodName)) ∈ gT := gT_in (List.mem_append_right _ (List.mem_append_right _ (List.mem_append_right _ (List.mem_append_right _ (List.mem_append_right _ (List.mem_append_right _ (List.mem_append_right _ (List.mem_append_left _ (List.mem_of_getElem? (i := 195) rfl))))))))) rfl
theorem tw_1636 : (Jvm.Cond.code ({ cls := "BoyBishopModel", name := "bits", desc := "(I)I" } : Jvm.MethodName) prog_14_method_4_code (3 : Nat) (Option.some Jvm.ClassFile.FieldType.int)) ∈ gT := gT_in (List.mem_append_right _ (List.mem_append_right _ (List.mem_append_right _ (List.mem_append_right _ (List.mem_append_right _ (List.mem_append_right _ (List.mem_append_right _ (List.mem_append_left _ (List.mem_of_getElem? (i := 196) rfl))))))))) rfl
theorem tw_1640 : (Jvm.Cond.methodLink "BoyBishopModel" (412 : Nat) ({ cls := "BoyBishopModel", name := "firstOf", desc := "(II)I" } : Jvm.MethodName)) ∈ gT := gT_in (List.mem_append_right _ (List.mem_append_right _ (List.mem_append_right _ (List.mem_append_right _ (List.mem_append_right _ (List.mem_append_right _ (List.mem_append_right _ (List.mem_append_left _ (List.mem_of_getElem? (i := 200) rfl))))))))) rfl
theorem tw_1642 : (Jvm.Cond.instanceMethod ({ cls := "BoyBishopModel", name := "firstOf", desc := "(II)I" } : Jvm.MethodName)) ∈ gT := gT_in (List.mem_append_right _ (List.mem_append_right _ (List.mem_append_right _ (List.mem_append_right _ (List.mem_append_right _ (List.mem_append_right _ (List.mem_append_right _ (List.mem_append_left _ (List.mem_of_getElem? (i := 202) rfl))))))))) rfl
theorem tw_1643 : (Jvm.Cond.code ({ cls := "BoyBishopModel", name := "firstOf", desc := "(II)I" } : Jvm.MethodName) prog_14_method_96_code (5 : Nat) (Option.some Jvm.ClassFile.FieldType.int)) ∈ gT := gT_in (List.mem_append_right _ (List.mem_append_right _ (List.mem_append_right _ (List.mem_append_right _ (List.mem_append_right _ (List.mem_append_right _ (List.mem_append_right _ (List.mem_append_left _ (List.mem_of_getElem? (i := 203) rfl))))))))) rfl
theorem dX12_ahead_0 : decode cX12_ahead 0 = .ok (.aload_n 0, 1) := by decide +kernel
theorem dX12_ahead_1 : decode cX12_ahead 1 = .ok (.invokevirtual 379, 3) := by decide +kernel
theorem dX12_ahead_4 : decode cX12_ahead 4 = .ok (.ifCond .eq 53, 3) := by decide +kernel
theorem dX12_ahead_7 : decode cX12_ahead 7 = .ok (.iload_n 2, 1) := by decide +kernel
theorem dX12_ahead_8 : decode cX12_ahead 8 = .ok (.i2l, 1) := by decide +kernel
theorem dX12_ahead_9 : decode cX12_ahead 9 = .ok (.lconst 0, 1) := by decide +kernel
theorem dX12_ahead_10 : decode cX12_ahead 10 = .ok (.ldc2_w 390, 3) := by decide +kernel
theorem dX12_ahead_13 : decode cX12_ahead 13 = .ok (.invokestatic 121, 3) := by decide +kernel
theorem dX12_ahead_16 : decode cX12_ahead 16 = .ok (.ifCond .eq 41, 3) := by decide +kernel
theorem dX12_ahead_19 : decode cX12_ahead 19 = .ok (.iload_n 3, 1) := by decide +kernel
theorem dX12_ahead_20 : decode cX12_ahead 20 = .ok (.i2l, 1) := by decide +kernel
theorem dX12_ahead_21 : decode cX12_ahead 21 = .ok (.lconst 0, 1) := by decide +kernel
theorem dX12_ahead_22 : decode cX12_ahead 22 = .ok (.ldc2_w 392, 3) := by decide +kernel
theorem dX12_ahead_25 : decode cX12_ahead 25 = .ok (.invokestatic 121, 3) := by decide +kernel
theorem dX12_ahead_28 : decode cX12_ahead 28 = .ok (.ifCond .eq 29, 3) := by decide +kernel
theorem dX12_ahead_31 : decode cX12_ahead 31 = .ok (.iload_n 3, 1) := by decide +kernel
theorem dX12_ahead_32 : decode cX12_ahead 32 = .ok (.iconst 1, 1) := by decide +kernel
theorem dX12_ahead_33 : decode cX12_ahead 33 = .ok (.if_icmp .ne 11, 3) := by decide +kernel
theorem dX12_ahead_36 : decode cX12_ahead 36 = .ok (.aload_n 0, 1) := by decide +kernel
theorem dX12_ahead_37 : decode cX12_ahead 37 = .ok (.iload_n 1, 1) := by decide +kernel
theorem dX12_ahead_38 : decode cX12_ahead 38 = .ok (.invokevirtual 301, 3) := by decide +kernel
theorem dX12_ahead_41 : decode cX12_ahead 41 = .ok (.ifCond .eq 16, 3) := by decide +kernel
theorem dX12_ahead_44 : decode cX12_ahead 44 = .ok (.iload_n 3, 1) := by decide +kernel
theorem dX12_ahead_45 : decode cX12_ahead 45 = .ok (.iconst 2, 1) := by decide +kernel
theorem dX12_ahead_46 : decode cX12_ahead 46 = .ok (.if_icmp .ne 14, 3) := by decide +kernel
theorem dX12_ahead_49 : decode cX12_ahead 49 = .ok (.aload_n 0, 1) := by decide +kernel
theorem dX12_ahead_50 : decode cX12_ahead 50 = .ok (.iload_n 1, 1) := by decide +kernel
theorem dX12_ahead_51 : decode cX12_ahead 51 = .ok (.invokevirtual 325, 3) := by decide +kernel
theorem dX12_ahead_54 : decode cX12_ahead 54 = .ok (.ifCond .ne 6, 3) := by decide +kernel
theorem dX12_ahead_57 : decode cX12_ahead 57 = .ok (.bipush (-2), 2) := by decide +kernel
theorem dX12_ahead_59 : decode cX12_ahead 59 = .ok (.ireturn, 1) := by decide +kernel
theorem dX12_ahead_60 : decode cX12_ahead 60 = .ok (.aload_n 0, 1) := by decide +kernel
theorem dX12_ahead_61 : decode cX12_ahead 61 = .ok (.invokevirtual 394, 3) := by decide +kernel
theorem dX12_ahead_64 : decode cX12_ahead 64 = .ok (.iconst 0, 1) := by decide +kernel
theorem dX12_ahead_65 : decode cX12_ahead 65 = .ok (.istore 4, 2) := by decide +kernel
theorem dX12_ahead_67 : decode cX12_ahead 67 = .ok (.iload 4, 2) := by decide +kernel
theorem dX12_ahead_69 : decode cX12_ahead 69 = .ok (.iload_n 2, 1) := by decide +kernel
theorem dX12_ahead_70 : decode cX12_ahead 70 = .ok (.if_icmp .ge 13, 3) := by decide +kernel
theorem dX12_ahead_73 : decode cX12_ahead 73 = .ok (.aload_n 0, 1) := by decide +kernel
theorem dX12_ahead_74 : decode cX12_ahead 74 = .ok (.invokevirtual 385, 3) := by decide +kernel
theorem dX12_ahead_77 : decode cX12_ahead 77 = .ok (.iinc 4 1, 3) := by decide +kernel
theorem dX12_ahead_80 : decode cX12_ahead 80 = .ok (.goto (-13), 3) := by decide +kernel
theorem dX12_ahead_83 : decode cX12_ahead 83 = .ok (.iload_n 3, 1) := by decide +kernel
theorem dX12_ahead_84 : decode cX12_ahead 84 = .ok (.ifCond .ne 13, 3) := by decide +kernel
theorem dX12_ahead_87 : decode cX12_ahead 87 = .ok (.aload_n 0, 1) := by decide +kernel
theorem dX12_ahead_88 : decode cX12_ahead 88 = .ok (.getfield 39, 3) := by decide +kernel
theorem dX12_ahead_91 : decode cX12_ahead 91 = .ok (.bipush 11, 2) := by decide +kernel
theorem dX12_ahead_93 : decode cX12_ahead 93 = .ok (.iaload, 1) := by decide +kernel
theorem dX12_ahead_94 : decode cX12_ahead 94 = .ok (.goto 26, 3) := by decide +kernel
theorem dX12_ahead_97 : decode cX12_ahead 97 = .ok (.iload_n 3, 1) := by decide +kernel
theorem dX12_ahead_98 : decode cX12_ahead 98 = .ok (.iconst 1, 1) := by decide +kernel
theorem dX12_ahead_99 : decode cX12_ahead 99 = .ok (.if_icmp .ne 12, 3) := by decide +kernel
theorem dX12_ahead_102 : decode cX12_ahead 102 = .ok (.aload_n 0, 1) := by decide +kernel
theorem dX12_ahead_103 : decode cX12_ahead 103 = .ok (.iload_n 1, 1) := by decide +kernel
theorem dX12_ahead_104 : decode cX12_ahead 104 = .ok (.iconst 0, 1) := by decide +kernel
theorem dX12_ahead_105 : decode cX12_ahead 105 = .ok (.invokevirtual 304, 3) := by decide +kernel
theorem dX12_ahead_108 : decode cX12_ahead 108 = .ok (.goto 12, 3) := by decide +kernel
theorem dX12_ahead_111 : decode cX12_ahead 111 = .ok (.aload_n 0, 1) := by decide +kernel
theorem dX12_ahead_112 : decode cX12_ahead 112 = .ok (.getfield 39, 3) := by decide +kernel
theorem dX12_ahead_115 : decode cX12_ahead 115 = .ok (.bipush 34, 2) := by decide +kernel
theorem dX12_ahead_117 : decode cX12_ahead 117 = .ok (.iload_n 1, 1) := by decide +kernel
theorem dX12_ahead_118 : decode cX12_ahead 118 = .ok (.iadd, 1) := by decide +kernel
theorem dX12_ahead_119 : decode cX12_ahead 119 = .ok (.iaload, 1) := by decide +kernel
theorem dX12_ahead_120 : decode cX12_ahead 120 = .ok (.istore 4, 2) := by decide +kernel
theorem dX12_ahead_122 : decode cX12_ahead 122 = .ok (.aload_n 0, 1) := by decide +kernel
theorem dX12_ahead_123 : decode cX12_ahead 123 = .ok (.invokevirtual 397, 3) := by decide +kernel
theorem dX12_ahead_126 : decode cX12_ahead 126 = .ok (.iload 4, 2) := by decide +kernel
theorem dX12_ahead_128 : decode cX12_ahead 128 = .ok (.ireturn, 1) := by decide +kernel
theorem dX12_byLast_0 : decode cX12_byLast 0 = .ok (.iconst 0, 1) := by decide +kernel
theorem dX12_byLast_1 : decode cX12_byLast 1 = .ok (.istore_n 1, 1) := by decide +kernel
theorem dX12_byLast_2 : decode cX12_byLast 2 = .ok (.iconst 0, 1) := by decide +kernel
theorem dX12_byLast_3 : decode cX12_byLast 3 = .ok (.istore_n 2, 1) := by decide +kernel
theorem dX12_byLast_4 : decode cX12_byLast 4 = .ok (.iload_n 2, 1) := by decide +kernel
theorem dX12_byLast_5 : decode cX12_byLast 5 = .ok (.aload_n 0, 1) := by decide +kernel
theorem dX12_byLast_6 : decode cX12_byLast 6 = .ok (.getfield 39, 3) := by decide +kernel
theorem dX12_byLast_9 : decode cX12_byLast 9 = .ok (.iconst 3, 1) := by decide +kernel
theorem dX12_byLast_10 : decode cX12_byLast 10 = .ok (.iaload, 1) := by decide +kernel
theorem dX12_byLast_11 : decode cX12_byLast 11 = .ok (.if_icmp .ge 27, 3) := by decide +kernel
theorem dX12_byLast_14 : decode cX12_byLast 14 = .ok (.iload_n 1, 1) := by decide +kernel
theorem dX12_byLast_15 : decode cX12_byLast 15 = .ok (.aload_n 0, 1) := by decide +kernel
theorem dX12_byLast_16 : decode cX12_byLast 16 = .ok (.iload_n 2, 1) := by decide +kernel
theorem dX12_byLast_17 : decode cX12_byLast 17 = .ok (.invokevirtual 314, 3) := by decide +kernel
theorem dX12_byLast_20 : decode cX12_byLast 20 = .ok (.ifCond .eq 9, 3) := by decide +kernel
theorem dX12_byLast_23 : decode cX12_byLast 23 = .ok (.iconst 1, 1) := by decide +kernel
theorem dX12_byLast_24 : decode cX12_byLast 24 = .ok (.iload_n 2, 1) := by decide +kernel
theorem dX12_byLast_25 : decode cX12_byLast 25 = .ok (.ishl, 1) := by decide +kernel
theorem dX12_byLast_26 : decode cX12_byLast 26 = .ok (.goto 4, 3) := by decide +kernel
theorem dX12_byLast_29 : decode cX12_byLast 29 = .ok (.iconst 0, 1) := by decide +kernel
theorem dX12_byLast_30 : decode cX12_byLast 30 = .ok (.ior, 1) := by decide +kernel
theorem dX12_byLast_31 : decode cX12_byLast 31 = .ok (.istore_n 1, 1) := by decide +kernel
theorem dX12_byLast_32 : decode cX12_byLast 32 = .ok (.iinc 2 1, 3) := by decide +kernel
theorem dX12_byLast_35 : decode cX12_byLast 35 = .ok (.goto (-31), 3) := by decide +kernel
theorem dX12_byLast_38 : decode cX12_byLast 38 = .ok (.iload_n 1, 1) := by decide +kernel
theorem dX12_byLast_39 : decode cX12_byLast 39 = .ok (.invokestatic 409, 3) := by decide +kernel
theorem dX12_byLast_42 : decode cX12_byLast 42 = .ok (.iconst 1, 1) := by decide +kernel
theorem dX12_byLast_43 : decode cX12_byLast 43 = .ok (.if_icmp .le 114, 3) := by decide +kernel
theorem dX12_byLast_46 : decode cX12_byLast 46 = .ok (.iconst (-1), 1) := by decide +kernel
theorem dX12_byLast_47 : decode cX12_byLast 47 = .ok (.istore_n 2, 1) := by decide +kernel
theorem dX12_byLast_48 : decode cX12_byLast 48 = .ok (.iconst 0, 1) := by decide +kernel
theorem dX12_byLast_49 : decode cX12_byLast 49 = .ok (.istore_n 3, 1) := by decide +kernel
theorem dX12_byLast_50 : decode cX12_byLast 50 = .ok (.iconst 0, 1) := by decide +kernel
theorem dX12_byLast_51 : decode cX12_byLast 51 = .ok (.istore 4, 2) := by decide +kernel
theorem dX12_byLast_53 : decode cX12_byLast 53 = .ok (.iload 4, 2) := by decide +kernel
theorem dX12_byLast_55 : decode cX12_byLast 55 = .ok (.aload_n 0, 1) := by decide +kernel
theorem dX12_byLast_56 : decode cX12_byLast 56 = .ok (.getfield 39, 3) := by decide +kernel
theorem dX12_byLast_59 : decode cX12_byLast 59 = .ok (.iconst 3, 1) := by decide +kernel
theorem dX12_byLast_60 : decode cX12_byLast 60 = .ok (.iaload, 1) := by decide +kernel
theorem dX12_byLast_61 : decode cX12_byLast 61 = .ok (.if_icmp .ge 85, 3) := by decide +kernel
theorem dX12_byLast_64 : decode cX12_byLast 64 = .ok (.iload_n 1, 1) := by decide +kernel
theorem dX12_byLast_65 : decode cX12_byLast 65 = .ok (.iload 4, 2) := by decide +kernel
theorem dX12_byLast_67 : decode cX12_byLast 67 = .ok (.invokestatic 406, 3) := by decide +kernel
theorem dX12_byLast_70 : decode cX12_byLast 70 = .ok (.ifCond .ne 6, 3) := by decide +kernel
theorem dX12_byLast_73 : decode cX12_byLast 73 = .ok (.goto 67, 3) := by decide +kernel
theorem dX12_byLast_76 : decode cX12_byLast 76 = .ok (.iconst 0, 1) := by decide +kernel
theorem dX12_byLast_77 : decode cX12_byLast 77 = .ok (.istore 5, 2) := by decide +kernel
theorem dX12_byLast_79 : decode cX12_byLast 79 = .ok (.iconst 0, 1) := by decide +kernel
theorem dX12_byLast_80 : decode cX12_byLast 80 = .ok (.istore 6, 2) := by decide +kernel
theorem dX12_byLast_82 : decode cX12_byLast 82 = .ok (.iload 6, 2) := by decide +kernel
theorem dX12_byLast_84 : decode cX12_byLast 84 = .ok (.aload_n 0, 1) := by decide +kernel
theorem dX12_byLast_85 : decode cX12_byLast 85 = .ok (.getfield 39, 3) := by decide +kernel
theorem dX12_byLast_88 : decode cX12_byLast 88 = .ok (.iconst 3, 1) := by decide +kernel
theorem dX12_byLast_89 : decode cX12_byLast 89 = .ok (.iaload, 1) := by decide +kernel
theorem dX12_byLast_90 : decode cX12_byLast 90 = .ok (.if_icmp .ge 31, 3) := by decide +kernel
theorem dX12_byLast_93 : decode cX12_byLast 93 = .ok (.iload 5, 2) := by decide +kernel
theorem dX12_byLast_95 : decode cX12_byLast 95 = .ok (.aload_n 0, 1) := by decide +kernel
theorem dX12_byLast_96 : decode cX12_byLast 96 = .ok (.iload 6, 2) := by decide +kernel
theorem dX12_byLast_98 : decode cX12_byLast 98 = .ok (.iload_n 1, 1) := by decide +kernel
theorem dX12_byLast_99 : decode cX12_byLast 99 = .ok (.invokevirtual 412, 3) := by decide +kernel
theorem dX12_byLast_102 : decode cX12_byLast 102 = .ok (.iload 4, 2) := by decide +kernel
theorem dX12_byLast_104 : decode cX12_byLast 104 = .ok (.if_icmp .ne 7, 3) := by decide +kernel
theorem dX12_byLast_107 : decode cX12_byLast 107 = .ok (.iconst 1, 1) := by decide +kernel
theorem dX12_byLast_108 : decode cX12_byLast 108 = .ok (.goto 4, 3) := by decide +kernel
theorem dX12_byLast_111 : decode cX12_byLast 111 = .ok (.iconst 0, 1) := by decide +kernel
theorem dX12_byLast_112 : decode cX12_byLast 112 = .ok (.iadd, 1) := by decide +kernel
theorem dX12_byLast_113 : decode cX12_byLast 113 = .ok (.istore 5, 2) := by decide +kernel
theorem dX12_byLast_115 : decode cX12_byLast 115 = .ok (.iinc 6 1, 3) := by decide +kernel
theorem dX12_byLast_118 : decode cX12_byLast 118 = .ok (.goto (-36), 3) := by decide +kernel
theorem dX12_byLast_121 : decode cX12_byLast 121 = .ok (.iload_n 2, 1) := by decide +kernel
theorem dX12_byLast_122 : decode cX12_byLast 122 = .ok (.ifCond .lt 12, 3) := by decide +kernel
theorem dX12_byLast_125 : decode cX12_byLast 125 = .ok (.iload 5, 2) := by decide +kernel
theorem dX12_byLast_127 : decode cX12_byLast 127 = .ok (.iload_n 3, 1) := by decide +kernel
theorem dX12_byLast_128 : decode cX12_byLast 128 = .ok (.if_icmp .le 6, 3) := by decide +kernel
theorem dX12_byLast_131 : decode cX12_byLast 131 = .ok (.goto 9, 3) := by decide +kernel
theorem dX12_byLast_134 : decode cX12_byLast 134 = .ok (.iload 4, 2) := by decide +kernel
theorem dX12_byLast_136 : decode cX12_byLast 136 = .ok (.istore_n 2, 1) := by decide +kernel
theorem dX12_byLast_137 : decode cX12_byLast 137 = .ok (.iload 5, 2) := by decide +kernel
theorem dX12_byLast_139 : decode cX12_byLast 139 = .ok (.istore_n 3, 1) := by decide +kernel
theorem dX12_byLast_140 : decode cX12_byLast 140 = .ok (.iinc 4 1, 3) := by decide +kernel
theorem dX12_byLast_143 : decode cX12_byLast 143 = .ok (.goto (-90), 3) := by decide +kernel
theorem dX12_byLast_146 : decode cX12_byLast 146 = .ok (.iload_n 1, 1) := by decide +kernel
theorem dX12_byLast_147 : decode cX12_byLast 147 = .ok (.iconst 1, 1) := by decide +kernel
theorem dX12_byLast_148 : decode cX12_byLast 148 = .ok (.iload_n 2, 1) := by decide +kernel
theorem dX12_byLast_149 : decode cX12_byLast 149 = .ok (.ishl, 1) := by decide +kernel
theorem dX12_byLast_150 : decode cX12_byLast 150 = .ok (.iconst (-1), 1) := by decide +kernel
theorem dX12_byLast_151 : decode cX12_byLast 151 = .ok (.ixor, 1) := by decide +kernel
theorem dX12_byLast_152 : decode cX12_byLast 152 = .ok (.iand, 1) := by decide +kernel
theorem dX12_byLast_153 : decode cX12_byLast 153 = .ok (.istore_n 1, 1) := by decide +kernel
theorem dX12_byLast_154 : decode cX12_byLast 154 = .ok (.goto (-116), 3) := by decide +kernel
theorem dX12_byLast_157 : decode cX12_byLast 157 = .ok (.iload_n 1, 1) := by decide +kernel
theorem dX12_byLast_158 : decode cX12_byLast 158 = .ok (.ifCond .ne 7, 3) := by decide +kernel
theorem dX12_byLast_161 : decode cX12_byLast 161 = .ok (.iconst (-1), 1) := by decide +kernel
theorem dX12_byLast_162 : decode cX12_byLast 162 = .ok (.goto 9, 3) := by decide +kernel
theorem dX12_byLast_165 : decode cX12_byLast 165 = .ok (.aload_n 0, 1) := by decide +kernel
theorem dX12_byLast_166 : decode cX12_byLast 166 = .ok (.iconst 0, 1) := by decide +kernel
theorem dX12_byLast_167 : decode cX12_byLast 167 = .ok (.iload_n 1, 1) := by decide +kernel
theorem dX12_byLast_168 : decode cX12_byLast 168 = .ok (.invokevirtual 412, 3) := by decide +kernel
theorem dX12_byLast_171 : decode cX12_byLast 171 = .ok (.ireturn, 1) := by decide +kernel
theorem dX12_chosen_0 : decode cX12_chosen 0 = .ok (.aload_n 0, 1) := by decide +kernel
theorem dX12_chosen_1 : decode cX12_chosen 1 = .ok (.invokevirtual 349, 3) := by decide +kernel
theorem dX12_chosen_4 : decode cX12_chosen 4 = .ok (.aload_n 0, 1) := by decide +kernel
theorem dX12_chosen_5 : decode cX12_chosen 5 = .ok (.invokevirtual 352, 3) := by decide +kernel
theorem dX12_chosen_8 : decode cX12_chosen 8 = .ok (.ireturn, 1) := by decide +kernel
theorem dX12_elects_0 : decode cX12_elects 0 = .ok (.aload_n 0, 1) := by decide +kernel
theorem dX12_elects_1 : decode cX12_elects 1 = .ok (.getfield 39, 3) := by decide +kernel
theorem dX12_elects_4 : decode cX12_elects 4 = .ok (.bipush 11, 2) := by decide +kernel
theorem dX12_elects_6 : decode cX12_elects 6 = .ok (.iaload, 1) := by decide +kernel
theorem dX12_elects_7 : decode cX12_elects 7 = .ok (.ifCond .lt 4, 3) := by decide +kernel
theorem dX12_elects_10 : decode cX12_elects 10 = .ok (.return_, 1) := by decide +kernel
theorem dX12_elects_11 : decode cX12_elects 11 = .ok (.aload_n 0, 1) := by decide +kernel
theorem dX12_elects_12 : decode cX12_elects 12 = .ok (.invokevirtual 355, 3) := by decide +kernel
theorem dX12_elects_15 : decode cX12_elects 15 = .ok (.istore_n 1, 1) := by decide +kernel
theorem dX12_elects_16 : decode cX12_elects 16 = .ok (.iload_n 1, 1) := by decide +kernel
theorem dX12_elects_17 : decode cX12_elects 17 = .ok (.ifCond .ge 4, 3) := by decide +kernel
theorem dX12_elects_20 : decode cX12_elects 20 = .ok (.return_, 1) := by decide +kernel
theorem dX12_elects_21 : decode cX12_elects 21 = .ok (.aload_n 0, 1) := by decide +kernel
theorem dX12_elects_22 : decode cX12_elects 22 = .ok (.getfield 39, 3) := by decide +kernel
theorem dX12_elects_25 : decode cX12_elects 25 = .ok (.bipush 11, 2) := by decide +kernel
theorem dX12_elects_27 : decode cX12_elects 27 = .ok (.iload_n 1, 1) := by decide +kernel
theorem dX12_elects_28 : decode cX12_elects 28 = .ok (.iastore, 1) := by decide +kernel
theorem dX12_elects_29 : decode cX12_elects 29 = .ok (.aload_n 0, 1) := by decide +kernel
theorem dX12_elects_30 : decode cX12_elects 30 = .ok (.getfield 39, 3) := by decide +kernel
theorem dX12_elects_33 : decode cX12_elects 33 = .ok (.bipush 12, 2) := by decide +kernel
theorem dX12_elects_35 : decode cX12_elects 35 = .ok (.aload_n 0, 1) := by decide +kernel
theorem dX12_elects_36 : decode cX12_elects 36 = .ok (.getfield 39, 3) := by decide +kernel
theorem dX12_elects_39 : decode cX12_elects 39 = .ok (.bipush 10, 2) := by decide +kernel
theorem dX12_elects_41 : decode cX12_elects 41 = .ok (.iaload, 1) := by decide +kernel
theorem dX12_elects_42 : decode cX12_elects 42 = .ok (.iastore, 1) := by decide +kernel
theorem dX12_elects_43 : decode cX12_elects 43 = .ok (.aload_n 0, 1) := by decide +kernel
theorem dX12_elects_44 : decode cX12_elects 44 = .ok (.getfield 39, 3) := by decide +kernel
theorem dX12_elects_47 : decode cX12_elects 47 = .ok (.bipush 16, 2) := by decide +kernel
theorem dX12_elects_49 : decode cX12_elects 49 = .ok (.iconst 3, 1) := by decide +kernel
theorem dX12_elects_50 : decode cX12_elects 50 = .ok (.iload_n 1, 1) := by decide +kernel
theorem dX12_elects_51 : decode cX12_elects 51 = .ok (.imul, 1) := by decide +kernel
theorem dX12_elects_52 : decode cX12_elects 52 = .ok (.iadd, 1) := by decide +kernel
theorem dX12_elects_53 : decode cX12_elects 53 = .ok (.iconst 2, 1) := by decide +kernel
theorem dX12_elects_54 : decode cX12_elects 54 = .ok (.iadd, 1) := by decide +kernel
theorem dX12_elects_55 : decode cX12_elects 55 = .ok (.dup2, 1) := by decide +kernel
theorem dX12_elects_56 : decode cX12_elects 56 = .ok (.iaload, 1) := by decide +kernel
theorem dX12_elects_57 : decode cX12_elects 57 = .ok (.iconst 1, 1) := by decide +kernel
theorem dX12_elects_58 : decode cX12_elects 58 = .ok (.iadd, 1) := by decide +kernel
theorem dX12_elects_59 : decode cX12_elects 59 = .ok (.iastore, 1) := by decide +kernel
theorem dX12_elects_60 : decode cX12_elects 60 = .ok (.aload_n 0, 1) := by decide +kernel
theorem dX12_elects_61 : decode cX12_elects 61 = .ok (.dup, 1) := by decide +kernel
theorem dX12_elects_62 : decode cX12_elects 62 = .ok (.getfield 358, 3) := by decide +kernel
theorem dX12_elects_65 : decode cX12_elects 65 = .ok (.iconst 1, 1) := by decide +kernel
theorem dX12_elects_66 : decode cX12_elects 66 = .ok (.iadd, 1) := by decide +kernel
theorem dX12_elects_67 : decode cX12_elects 67 = .ok (.putfield 358, 3) := by decide +kernel
theorem dX12_elects_70 : decode cX12_elects 70 = .ok (.return_, 1) := by decide +kernel
theorem dX12_passes_0 : decode cX12_passes 0 = .ok (.aload_n 0, 1) := by decide +kernel
theorem dX12_passes_1 : decode cX12_passes 1 = .ok (.invokevirtual 364, 3) := by decide +kernel
theorem dX12_passes_4 : decode cX12_passes 4 = .ok (.iconst 0, 1) := by decide +kernel
theorem dX12_passes_5 : decode cX12_passes 5 = .ok (.istore_n 1, 1) := by decide +kernel
theorem dX12_passes_6 : decode cX12_passes 6 = .ok (.iload_n 1, 1) := by decide +kernel
theorem dX12_passes_7 : decode cX12_passes 7 = .ok (.aload_n 0, 1) := by decide +kernel
theorem dX12_passes_8 : decode cX12_passes 8 = .ok (.getfield 39, 3) := by decide +kernel
theorem dX12_passes_11 : decode cX12_passes 11 = .ok (.iconst 5, 1) := by decide +kernel
theorem dX12_passes_12 : decode cX12_passes 12 = .ok (.iaload, 1) := by decide +kernel
theorem dX12_passes_13 : decode cX12_passes 13 = .ok (.if_icmp .ge 62, 3) := by decide +kernel
theorem dX12_passes_16 : decode cX12_passes 16 = .ok (.aload_n 0, 1) := by decide +kernel
theorem dX12_passes_17 : decode cX12_passes 17 = .ok (.invokevirtual 367, 3) := by decide +kernel
theorem dX12_passes_20 : decode cX12_passes 20 = .ok (.ifCond .ne 55, 3) := by decide +kernel
theorem dX12_passes_23 : decode cX12_passes 23 = .ok (.aload_n 0, 1) := by decide +kernel
theorem dX12_passes_24 : decode cX12_passes 24 = .ok (.getfield 39, 3) := by decide +kernel
theorem dX12_passes_27 : decode cX12_passes 27 = .ok (.bipush 34, 2) := by decide +kernel
theorem dX12_passes_29 : decode cX12_passes 29 = .ok (.iload_n 1, 1) := by decide +kernel
theorem dX12_passes_30 : decode cX12_passes 30 = .ok (.iadd, 1) := by decide +kernel
theorem dX12_passes_31 : decode cX12_passes 31 = .ok (.aload_n 0, 1) := by decide +kernel
theorem dX12_passes_32 : decode cX12_passes 32 = .ok (.getfield 39, 3) := by decide +kernel
theorem dX12_passes_35 : decode cX12_passes 35 = .ok (.bipush 34, 2) := by decide +kernel
theorem dX12_passes_37 : decode cX12_passes 37 = .ok (.iload_n 1, 1) := by decide +kernel
theorem dX12_passes_38 : decode cX12_passes 38 = .ok (.iadd, 1) := by decide +kernel
theorem dX12_passes_39 : decode cX12_passes 39 = .ok (.iaload, 1) := by decide +kernel
theorem dX12_passes_40 : decode cX12_passes 40 = .ok (.aload_n 0, 1) := by decide +kernel
theorem dX12_passes_41 : decode cX12_passes 41 = .ok (.getfield 39, 3) := by decide +kernel
theorem dX12_passes_44 : decode cX12_passes 44 = .ok (.bipush 114, 2) := by decide +kernel
theorem dX12_passes_46 : decode cX12_passes 46 = .ok (.iconst 2, 1) := by decide +kernel
theorem dX12_passes_47 : decode cX12_passes 47 = .ok (.iload_n 1, 1) := by decide +kernel
theorem dX12_passes_48 : decode cX12_passes 48 = .ok (.imul, 1) := by decide +kernel
theorem dX12_passes_49 : decode cX12_passes 49 = .ok (.iadd, 1) := by decide +kernel
theorem dX12_passes_50 : decode cX12_passes 50 = .ok (.iconst 1, 1) := by decide +kernel
theorem dX12_passes_51 : decode cX12_passes 51 = .ok (.iadd, 1) := by decide +kernel
theorem dX12_passes_52 : decode cX12_passes 52 = .ok (.iaload, 1) := by decide +kernel
theorem dX12_passes_53 : decode cX12_passes 53 = .ok (.iadd, 1) := by decide +kernel
theorem dX12_passes_54 : decode cX12_passes 54 = .ok (.aload_n 0, 1) := by decide +kernel
theorem dX12_passes_55 : decode cX12_passes 55 = .ok (.getfield 39, 3) := by decide +kernel
theorem dX12_passes_58 : decode cX12_passes 58 = .ok (.bipush 114, 2) := by decide +kernel
theorem dX12_passes_60 : decode cX12_passes 60 = .ok (.iconst 2, 1) := by decide +kernel
theorem dX12_passes_61 : decode cX12_passes 61 = .ok (.iload_n 1, 1) := by decide +kernel
theorem dX12_passes_62 : decode cX12_passes 62 = .ok (.imul, 1) := by decide +kernel
theorem dX12_passes_63 : decode cX12_passes 63 = .ok (.iadd, 1) := by decide +kernel
theorem dX12_passes_64 : decode cX12_passes 64 = .ok (.iaload, 1) := by decide +kernel
theorem dX12_passes_65 : decode cX12_passes 65 = .ok (.invokestatic 370, 3) := by decide +kernel
theorem dX12_passes_68 : decode cX12_passes 68 = .ok (.iastore, 1) := by decide +kernel
theorem dX12_passes_69 : decode cX12_passes 69 = .ok (.iinc 1 1, 3) := by decide +kernel
theorem dX12_passes_72 : decode cX12_passes 72 = .ok (.goto (-66), 3) := by decide +kernel
theorem dX12_passes_75 : decode cX12_passes 75 = .ok (.iconst 0, 1) := by decide +kernel
theorem dX12_passes_76 : decode cX12_passes 76 = .ok (.istore_n 1, 1) := by decide +kernel
theorem dX12_passes_77 : decode cX12_passes 77 = .ok (.iload_n 1, 1) := by decide +kernel
theorem dX12_passes_78 : decode cX12_passes 78 = .ok (.aload_n 0, 1) := by decide +kernel
theorem dX12_passes_79 : decode cX12_passes 79 = .ok (.getfield 39, 3) := by decide +kernel
theorem dX12_passes_82 : decode cX12_passes 82 = .ok (.iconst 3, 1) := by decide +kernel
theorem dX12_passes_83 : decode cX12_passes 83 = .ok (.iaload, 1) := by decide +kernel
theorem dX12_passes_84 : decode cX12_passes 84 = .ok (.if_icmp .ge 58, 3) := by decide +kernel
theorem dX12_passes_87 : decode cX12_passes 87 = .ok (.aload_n 0, 1) := by decide +kernel
theorem dX12_passes_88 : decode cX12_passes 88 = .ok (.iload_n 1, 1) := by decide +kernel
theorem dX12_passes_89 : decode cX12_passes 89 = .ok (.invokevirtual 314, 3) := by decide +kernel
theorem dX12_passes_92 : decode cX12_passes 92 = .ok (.ifCond .ne 6, 3) := by decide +kernel
theorem dX12_passes_95 : decode cX12_passes 95 = .ok (.goto 41, 3) := by decide +kernel
theorem dX12_passes_98 : decode cX12_passes 98 = .ok (.aload_n 0, 1) := by decide +kernel
theorem dX12_passes_99 : decode cX12_passes 99 = .ok (.getfield 39, 3) := by decide +kernel
theorem dX12_passes_102 : decode cX12_passes 102 = .ok (.bipush 16, 2) := by decide +kernel
theorem dX12_passes_104 : decode cX12_passes 104 = .ok (.iconst 3, 1) := by decide +kernel
theorem dX12_passes_105 : decode cX12_passes 105 = .ok (.iload_n 1, 1) := by decide +kernel
theorem dX12_passes_106 : decode cX12_passes 106 = .ok (.imul, 1) := by decide +kernel
theorem dX12_passes_107 : decode cX12_passes 107 = .ok (.iadd, 1) := by decide +kernel
theorem dX12_passes_108 : decode cX12_passes 108 = .ok (.dup2, 1) := by decide +kernel
theorem dX12_passes_109 : decode cX12_passes 109 = .ok (.iaload, 1) := by decide +kernel
theorem dX12_passes_110 : decode cX12_passes 110 = .ok (.aload_n 0, 1) := by decide +kernel
theorem dX12_passes_111 : decode cX12_passes 111 = .ok (.getfield 39, 3) := by decide +kernel
theorem dX12_passes_114 : decode cX12_passes 114 = .ok (.bipush 52, 2) := by decide +kernel
theorem dX12_passes_116 : decode cX12_passes 116 = .ok (.iload_n 1, 1) := by decide +kernel
theorem dX12_passes_117 : decode cX12_passes 117 = .ok (.iadd, 1) := by decide +kernel
theorem dX12_passes_118 : decode cX12_passes 118 = .ok (.iaload, 1) := by decide +kernel
theorem dX12_passes_119 : decode cX12_passes 119 = .ok (.isub, 1) := by decide +kernel
theorem dX12_passes_120 : decode cX12_passes 120 = .ok (.iastore, 1) := by decide +kernel
theorem dX12_passes_121 : decode cX12_passes 121 = .ok (.aload_n 0, 1) := by decide +kernel
theorem dX12_passes_122 : decode cX12_passes 122 = .ok (.iload_n 1, 1) := by decide +kernel
theorem dX12_passes_123 : decode cX12_passes 123 = .ok (.iconst 0, 1) := by decide +kernel
theorem dX12_passes_124 : decode cX12_passes 124 = .ok (.invokevirtual 304, 3) := by decide +kernel
theorem dX12_passes_127 : decode cX12_passes 127 = .ok (.iconst 1, 1) := by decide +kernel
theorem dX12_passes_128 : decode cX12_passes 128 = .ok (.if_icmp .ge 8, 3) := by decide +kernel
theorem dX12_passes_131 : decode cX12_passes 131 = .ok (.aload_n 0, 1) := by decide +kernel
theorem dX12_passes_132 : decode cX12_passes 132 = .ok (.iload_n 1, 1) := by decide +kernel
theorem dX12_passes_133 : decode cX12_passes 133 = .ok (.invokevirtual 373, 3) := by decide +kernel
theorem dX12_passes_136 : decode cX12_passes 136 = .ok (.iinc 1 1, 3) := by decide +kernel
theorem dX12_passes_139 : decode cX12_passes 139 = .ok (.goto (-62), 3) := by decide +kernel
theorem dX12_passes_142 : decode cX12_passes 142 = .ok (.aload_n 0, 1) := by decide +kernel
theorem dX12_passes_143 : decode cX12_passes 143 = .ok (.getfield 39, 3) := by decide +kernel
theorem dX12_passes_146 : decode cX12_passes 146 = .ok (.bipush 11, 2) := by decide +kernel
theorem dX12_passes_148 : decode cX12_passes 148 = .ok (.iaload, 1) := by decide +kernel
theorem dX12_passes_149 : decode cX12_passes 149 = .ok (.ifCond .lt 59, 3) := by decide +kernel
theorem dX12_passes_152 : decode cX12_passes 152 = .ok (.aload_n 0, 1) := by decide +kernel
theorem dX12_passes_153 : decode cX12_passes 153 = .ok (.aload_n 0, 1) := by decide +kernel
theorem dX12_passes_154 : decode cX12_passes 154 = .ok (.getfield 39, 3) := by decide +kernel
theorem dX12_passes_157 : decode cX12_passes 157 = .ok (.bipush 11, 2) := by decide +kernel
theorem dX12_passes_159 : decode cX12_passes 159 = .ok (.iaload, 1) := by decide +kernel
theorem dX12_passes_160 : decode cX12_passes 160 = .ok (.invokevirtual 314, 3) := by decide +kernel
theorem dX12_passes_163 : decode cX12_passes 163 = .ok (.ifCond .eq 29, 3) := by decide +kernel
theorem dX12_passes_166 : decode cX12_passes 166 = .ok (.aload_n 0, 1) := by decide +kernel
theorem dX12_passes_167 : decode cX12_passes 167 = .ok (.getfield 39, 3) := by decide +kernel
theorem dX12_passes_170 : decode cX12_passes 170 = .ok (.bipush 10, 2) := by decide +kernel
theorem dX12_passes_172 : decode cX12_passes 172 = .ok (.iaload, 1) := by decide +kernel
theorem dX12_passes_173 : decode cX12_passes 173 = .ok (.aload_n 0, 1) := by decide +kernel
theorem dX12_passes_174 : decode cX12_passes 174 = .ok (.getfield 39, 3) := by decide +kernel
theorem dX12_passes_177 : decode cX12_passes 177 = .ok (.bipush 12, 2) := by decide +kernel
theorem dX12_passes_179 : decode cX12_passes 179 = .ok (.iaload, 1) := by decide +kernel
theorem dX12_passes_180 : decode cX12_passes 180 = .ok (.isub, 1) := by decide +kernel
theorem dX12_passes_181 : decode cX12_passes 181 = .ok (.iconst 1, 1) := by decide +kernel
theorem dX12_passes_182 : decode cX12_passes 182 = .ok (.iadd, 1) := by decide +kernel
theorem dX12_passes_183 : decode cX12_passes 183 = .ok (.aload_n 0, 1) := by decide +kernel
theorem dX12_passes_184 : decode cX12_passes 184 = .ok (.getfield 39, 3) := by decide +kernel
theorem dX12_passes_187 : decode cX12_passes 187 = .ok (.iconst 1, 1) := by decide +kernel
theorem dX12_passes_188 : decode cX12_passes 188 = .ok (.iaload, 1) := by decide +kernel
theorem dX12_passes_189 : decode cX12_passes 189 = .ok (.if_icmp .lt 19, 3) := by decide +kernel
theorem dX12_passes_192 : decode cX12_passes 192 = .ok (.aload_n 0, 1) := by decide +kernel
theorem dX12_passes_193 : decode cX12_passes 193 = .ok (.getfield 39, 3) := by decide +kernel
theorem dX12_passes_196 : decode cX12_passes 196 = .ok (.bipush 11, 2) := by decide +kernel
theorem dX12_passes_198 : decode cX12_passes 198 = .ok (.iconst (-1), 1) := by decide +kernel
theorem dX12_passes_199 : decode cX12_passes 199 = .ok (.iastore, 1) := by decide +kernel
theorem dX12_passes_200 : decode cX12_passes 200 = .ok (.aload_n 0, 1) := by decide +kernel
theorem dX12_passes_201 : decode cX12_passes 201 = .ok (.getfield 39, 3) := by decide +kernel
theorem dX12_passes_204 : decode cX12_passes 204 = .ok (.bipush 12, 2) := by decide +kernel
theorem dX12_passes_206 : decode cX12_passes 206 = .ok (.iconst (-1), 1) := by decide +kernel
theorem dX12_passes_207 : decode cX12_passes 207 = .ok (.iastore, 1) := by decide +kernel
theorem dX12_passes_208 : decode cX12_passes 208 = .ok (.aload_n 0, 1) := by decide +kernel
theorem dX12_passes_209 : decode cX12_passes 209 = .ok (.invokevirtual 376, 3) := by decide +kernel
theorem dX12_passes_212 : decode cX12_passes 212 = .ok (.aload_n 0, 1) := by decide +kernel
theorem dX12_passes_213 : decode cX12_passes 213 = .ok (.getfield 39, 3) := by decide +kernel
theorem dX12_passes_216 : decode cX12_passes 216 = .ok (.bipush 15, 2) := by decide +kernel
theorem dX12_passes_218 : decode cX12_passes 218 = .ok (.iconst 0, 1) := by decide +kernel
theorem dX12_passes_219 : decode cX12_passes 219 = .ok (.iastore, 1) := by decide +kernel
theorem dX12_passes_220 : decode cX12_passes 220 = .ok (.aload_n 0, 1) := by decide +kernel
theorem dX12_passes_221 : decode cX12_passes 221 = .ok (.getfield 39, 3) := by decide +kernel
theorem dX12_passes_224 : decode cX12_passes 224 = .ok (.bipush 10, 2) := by decide +kernel
theorem dX12_passes_226 : decode cX12_passes 226 = .ok (.dup2, 1) := by decide +kernel
theorem dX12_passes_227 : decode cX12_passes 227 = .ok (.iaload, 1) := by decide +kernel
theorem dX12_passes_228 : decode cX12_passes 228 = .ok (.iconst 1, 1) := by decide +kernel
theorem dX12_passes_229 : decode cX12_passes 229 = .ok (.iadd, 1) := by decide +kernel
theorem dX12_passes_230 : decode cX12_passes 230 = .ok (.iastore, 1) := by decide +kernel
theorem dX12_passes_231 : decode cX12_passes 231 = .ok (.return_, 1) := by decide +kernel
set_option maxHeartbeats 4000000 in
set_option maxRecDepth 100000 in
theorem t_X12_chosen (l : Launch) (dC : Nat → ClassId) (dI : Nat → Nat → Nat) (tys : List (ClassId × FieldType)) (κ : tK) (B : Nat) (ws : va_W) (hT : Ty κ tys B ws) (a0 : Nat) (k_a0 : κ a0 = some 12) (hRT : RT κ ws a0) (sz : Nat) : Met l yX12_chosen (ws_u yX12_chosen cX12_chosen 1 (some .int)) ({ frames := 6, cells := 0, slots := 0, locals := 148 }) (va_Pc [.ref a0] (cPre (dC, dI) tys ws sz)) (va_Qi (fun (r : Int32) (w : va_W) => (-1) ≤ r.toInt ∧ r.toInt ≤ 5 ∧ Ty κ tys B w ∧ Sm [(12, 18)] [61, 62, 64] κ ws w) (fun w t => cPost (dC, dI) tys w (va_A ws sz) t) (va_A ws sz)) 0 0 (va_A ws sz) := by
  refine Met.ofW (cc := cX12_chosen) (maxL := 1) (ret := (some .int)) (by decide) rfl ?_
  intro p e s m args below meth c s₁ B0 hml hv
  obtain ⟨rfl, hsz, hP, hK, hD0, hE⟩ := hv
  have hx := B0.exec
  have hb := B0.bytes
  have hr := B0.returns
  have hts0 := atoms_spec (ws := ws_u yX12_chosen cX12_chosen 1 (some .int)) B0.pre
  have hts : ∀ w ∈ gT, w.before _ s = true := fun w h => hts0 w (List.mem_cons_of_mem _ h)
  have hown : s.vm.findClass RX12 = some m.cls := findClass_of_methodNamed B0.named
  have hlocks := B0.notSynchronized
  subst hsz
  have hD := hD0.self (sz := s.heap.size)
  generalize hAe : va_A ws s.heap.size = A at hD ⊢
  have hA : ∀ q : Nat, s.heap.size ≤ q → A q := fun q h => by rw [← hAe]; exact Or.inr h
  have hw : tW (dC, dI) tys κ B A s ws s.heap [] := ⟨hK, hP, hD, va_S.rf, hT⟩
  have hM : Sm [(12, 18)] [61, 62, 64] κ ws ws := Sm.rf
  clear hP hK hD hD0 hts0
  have hl := lv_entry ([.ref a0]) (n := 1) (Nat.le_of_ble_eq_true rfl)
  rw [lg_entry_eq]
  generalize (lg_sl ([.ref a0]) ++ List.replicate (1 - (lg_sl ([.ref a0])).length) Slot.unset).toArray = ls at hl ⊢
  have hl : lv_has ls 1 [(0, .ref a0)] := hl
  refine t_start (fun QQ hQ => ?_)
  refine lv_aload_n hx hb dX12_chosen_0 rfl (lv_at hl 0 rfl) ?_
  refine t_callv (va_runV (As := []) (rest := []) ⟨hx, hb, hml, hown, hts⟩ (t_X12_fillsVotes l dC dI tys κ B ws hw.2.2.2.2 a0 k_a0 (hRT.sm hM (by decide) (by decide)) s.heap.size) (cwV 0 hts (gUV tw_1509 tw_1511 ts_6_1 tw_13 tw_1512) rfl rfl rfl (by decide +kernel) ⟨(Nat.le_of_ble_eq_true rfl), (Nat.le_of_ble_eq_true rfl)⟩) ⟨cPre.blind, t_recv hw (ci := 12) k_a0 rfl rfl, cPre.use hw.2.1 hw.1 hw.2.2.1 hE⟩ rfl rfl hl.1 rfl (lv_room (Nat.le_of_ble_eq_true rfl)) dX12_chosen_1 ⟨(Nat.le_of_ble_eq_true rfl), (Nat.le_of_ble_eq_true rfl)⟩) hw hA (fun _ h => h.1) (fun w_1 H locs hp hw => ?_)
  obtain ⟨_, hm⟩ := hp
  have hM := hM.trans hm (by decide) (by decide)
  refine lv_aload_n hx hb dX12_chosen_4 rfl (lv_at hl 0 rfl) ?_
  refine t_calli (va_runV (As := []) (rest := []) ⟨hx, hb, hml, hown, hts⟩ (t_X12_mostVoted l dC dI tys κ B w_1 hw.2.2.2.2 a0 k_a0 H.size) (cwV 0 hts (gUV tw_1548 tw_1550 ts_6_10 tw_13 tw_1551) rfl rfl rfl (by decide +kernel) ⟨(Nat.le_of_ble_eq_true rfl), (Nat.le_of_ble_eq_true rfl)⟩) ⟨cPre.blind, t_recv hw (ci := 12) k_a0 rfl rfl, cPre.use hw.2.1 hw.1 hw.2.2.1 hE⟩ rfl rfl hl.1 rfl (lv_room (Nat.le_of_ble_eq_true rfl)) dX12_chosen_5 ⟨(Nat.le_of_ble_eq_true rfl), (Nat.le_of_ble_eq_true rfl)⟩) hw hA (fun _ _ h => h.2.2.1) (fun v5 w_2 H locs hp hw => ?_)
  obtain ⟨l_v5, h_v5, _, hm⟩ := hp
  have hM := hM.trans hm (by decide) (by decide)
  rw [hQ]
  refine W.widen (k := 0) (n := 0) (Nat.le_refl _) (Nat.le_refl _) ?_
  exact W.iret (v := v5) hx hb hr (fun t ht hW => ⟨⟨v5, w_2, rfl, ⟨(by omega), (by omega), hw.2.2.2.2, hM⟩, by rw [ht]; exact hw.2.1, va_K.moved hW.alike hw.1, hw.2.2.1⟩, hw.2.2.2.1.F ht⟩) hw.2.2.2.1.2.2 dX12_chosen_8
set_option maxHeartbeats 4000000 in
set_option maxRecDepth 100000 in
theorem t_X12_elects (l : Launch) (dC : Nat → ClassId) (dI : Nat → Nat → Nat) (tys : List (ClassId × FieldType)) (κ : tK) (B : Nat) (ws : va_W) (hT : Ty κ tys B ws) (a0 : Nat) (k_a0 : κ a0 = some 12) (f0 : Nat) (k_f0 : κ f0 = some 63) (f_a0_X12_20 : fld ws a0 12 20 (.ref f0)) (f1 : Int32) (l_f1 : 0 ≤ f1.toInt) (h_f1 : f1.toInt ≤ 1999) (f_f0_M_said_10 : elt ws f0 (10 : Int32).toInt.toNat f1) (hRT : RT κ ws a0) (sz : Nat) : Met l yX12_elects (ws_u yX12_elects cX12_elects 2 none) ({ frames := 7, cells := 0, slots := 0, locals := 168 }) (va_Pc [.ref a0] (cPre (dC, dI) tys ws sz)) (va_Qv (fun (w : va_W) => Ty κ tys B w ∧ Sm [(12, 18), (12, 24)] [61, 62, 63, 64] κ ws w ∧ elt w f0 (10 : Int32).toInt.toNat f1) (fun w t => cPost (dC, dI) tys w (va_A ws sz) t) (va_A ws sz)) 0 0 (va_A ws sz) := by
  refine Met.ofW (cc := cX12_elects) (maxL := 2) (ret := none) (by decide) rfl ?_
  intro p e s m args below meth c s₁ B0 hml hv
  obtain ⟨rfl, hsz, hP, hK, hD0, hE⟩ := hv
  have hx := B0.exec
  have hb := B0.bytes
  have hr := B0.returns
  have hts0 := atoms_spec (ws := ws_u yX12_elects cX12_elects 2 none) B0.pre
  have hts : ∀ w ∈ gT, w.before _ s = true := fun w h => hts0 w (List.mem_cons_of_mem _ h)
  have hown : s.vm.findClass RX12 = some m.cls := findClass_of_methodNamed B0.named
  have hlocks := B0.notSynchronized
  subst hsz
  have hD := hD0.self (sz := s.heap.size)
  generalize hAe : va_A ws s.heap.size = A at hD ⊢
  have hA : ∀ q : Nat, s.heap.size ≤ q → A q := fun q h => by rw [← hAe]; exact Or.inr h
  have hw : tW (dC, dI) tys κ B A s ws s.heap [] := ⟨hK, hP, hD, va_S.rf, hT⟩
  have hM : Sm [(12, 18), (12, 24)] [61, 62, 63, 64] κ ws ws := Sm.rf
  clear hP hK hD hD0 hts0
  have hl := lv_entry ([.ref a0]) (n := 2) (Nat.le_of_ble_eq_true rfl)
  rw [lg_entry_eq]
  generalize (lg_sl ([.ref a0]) ++ List.replicate (2 - (lg_sl ([.ref a0])).length) Slot.unset).toArray = ls at hl ⊢
  have hl : lv_has ls 2 [(0, .ref a0)] := hl
  refine t_start (fun QQ hQ => ?_)
  refine lv_aload_n hx hb dX12_elects_0 rfl (lv_at hl 0 rfl) ?_
  refine t_getk (ci := 12) (C := RX12) (T := TX12) (N := 38) hx hb hts iX12 hown hw rfl 20 (by decide) (hts _ tw_1145) (fun _ h9 => h9) dX12_elects_1 f_a0_X12_20 ?_
  refine lv_bipush (v := 11) hx hb dX12_elects_4 (by decide) ?_
  refine t_iald hx hb hw k_f0 rfl rfl (by decide) (by decide) dX12_elects_6 (fun v6 r_v6 s_v6 f_f0_M_said_11 => ?_)
  have l_v6 : (-1) ≤ v6.toInt := by rw [iv_63_11] at r_v6; exact r_v6
  have h_v6 : v6.toInt ≤ 5 := by rw [iv_63_11] at s_v6; exact s_v6
  refine lv_if_lt (tgt := 11) hx hb dX12_elects_7 (by decide) (fun c_7 => ?_) (fun c_7 => ?_)
  · simp only [fa_lt, fa_le, fa_eq, li_0] at c_7
    refine lv_aload_n hx hb dX12_elects_11 rfl (lv_at hl 0 rfl) ?_
    refine t_calli (va_runV (As := []) (rest := []) ⟨hx, hb, hml, hown, hts⟩ (t_X12_chosen l dC dI tys κ B ws hw.2.2.2.2 a0 k_a0 (hRT.sm hM (by decide) (by decide)) s.heap.size) (cwV 0 hts (gUV tw_1505 tw_1507 ts_6_0 tw_13 tw_1508) rfl rfl rfl (by decide +kernel) ⟨(Nat.le_of_ble_eq_true rfl), (Nat.le_of_ble_eq_true rfl)⟩) ⟨cPre.blind, t_recv hw (ci := 12) k_a0 rfl rfl, cPre.use hw.2.1 hw.1 hw.2.2.1 hE⟩ rfl rfl hl.1 rfl (lv_room (Nat.le_of_ble_eq_true rfl)) dX12_elects_12 ⟨(Nat.le_of_ble_eq_true rfl), (Nat.le_of_ble_eq_true rfl)⟩) hw hA (fun _ _ h => h.2.2.1) (fun v12 w_1 H locs hp hw => ?_)
    obtain ⟨l_v12, h_v12, _, hm⟩ := hp
    have hM := hM.trans hm (by decide) (by decide)
    have f_a0_X12_20 := hm.1 _ _ _ _ f_a0_X12_20 (by decide)
    have f_f0_M_said_10 := hm.elt k_f0 (by decide) f_f0_M_said_10
    have f_f0_M_said_11 := hm.elt k_f0 (by decide) f_f0_M_said_11
    refine lv_istore_n (lv' := [(1, .int v12), (0, .ref a0)]) hx hb dX12_elects_15 rfl hl (by decide) rfl (fun ls hl => ?_)
    refine lv_iload_n hx hb dX12_elects_16 rfl (lv_at hl 0 rfl) ?_
    refine lv_if_ge (tgt := 21) hx hb dX12_elects_17 (by decide) (fun c_17 => ?_) (fun c_17 => ?_)
    · simp only [fa_lt, fa_le, fa_eq, li_0] at c_17
      refine lv_aload_n hx hb dX12_elects_21 rfl (lv_at hl 1 rfl) ?_
      refine t_getk (ci := 12) (C := RX12) (T := TX12) (N := 38) hx hb hts iX12 hown hw rfl 20 (by decide) (hts _ tw_1145) (fun _ h9 => h9) dX12_elects_22 f_a0_X12_20 ?_
      refine lv_bipush (v := 11) hx hb dX12_elects_25 (by decide) ?_
      refine lv_iload_n hx hb dX12_elects_27 rfl (lv_at hl 0 rfl) ?_
      refine t_iast hx hb hw k_f0 rfl rfl (by decide) (by decide) (by rw [iv_63_11]; exact (show (-1) ≤ v12.toInt by omega)) (by rw [iv_63_11]; exact (show v12.toInt ≤ 5 by omega)) dX12_elects_28 (fun w_2 H locs hw u => ?_)
      have hM := hM.up3 u k_f0 (by decide)
      have f_a0_X12_20 := u.1 _ _ _ _ f_a0_X12_20
      have f_f0_M_said_10 := u.2.2.1 _ _ _ f_f0_M_said_10 (Or.inr (by decide))
      have f_f0_M_said_11 := u.2.2.2
      refine lv_aload_n hx hb dX12_elects_29 rfl (lv_at hl 1 rfl) ?_
      refine t_getk (ci := 12) (C := RX12) (T := TX12) (N := 38) hx hb hts iX12 hown hw rfl 20 (by decide) (hts _ tw_1145) (fun _ h9 => h9) dX12_elects_30 f_a0_X12_20 ?_
      refine lv_bipush (v := 12) hx hb dX12_elects_33 (by decide) ?_
      refine lv_aload_n hx hb dX12_elects_35 rfl (lv_at hl 1 rfl) ?_
      refine t_getk (ci := 12) (C := RX12) (T := TX12) (N := 38) hx hb hts iX12 hown hw rfl 20 (by decide) (hts _ tw_1145) (fun _ h9 => h9) dX12_elects_36 f_a0_X12_20 ?_
      refine lv_bipush (v := 10) hx hb dX12_elects_39 (by decide) ?_
      refine t_ialdk hx hb hw k_f0 rfl rfl (by decide) (by decide) f_f0_M_said_10 dX12_elects_41 ?_
      refine t_iast hx hb hw k_f0 rfl rfl (by decide) (by decide) (by rw [iv_63_12]; exact i32_lo _) (by rw [iv_63_12]; exact i32_hi _) dX12_elects_42 (fun w_3 H locs hw u => ?_)
      have hM := hM.up3 u k_f0 (by decide)
      have f_a0_X12_20 := u.1 _ _ _ _ f_a0_X12_20
      have f_f0_M_said_10 := u.2.2.1 _ _ _ f_f0_M_said_10 (Or.inr (by decide))
      have f_f0_M_said_11 := u.2.2.1 _ _ _ f_f0_M_said_11 (Or.inr (by decide))
      have f_f0_M_said_12 := u.2.2.2
      refine lv_aload_n hx hb dX12_elects_43 rfl (lv_at hl 1 rfl) ?_
      refine t_getk (ci := 12) (C := RX12) (T := TX12) (N := 38) hx hb hts iX12 hown hw rfl 20 (by decide) (hts _ tw_1145) (fun _ h9 => h9) dX12_elects_44 f_a0_X12_20 ?_
      refine lv_bipush (v := 16) hx hb dX12_elects_47 (by decide) ?_
      refine lv_iconst (v := 3) hx hb dX12_elects_49 (by decide) ?_
      refine lv_iload_n hx hb dX12_elects_50 rfl (lv_at hl 0 rfl) ?_
      refine lv_imul hx hb dX12_elects_51 ?_
      refine lv_topi (fun v51 e_v51 => ?_)
      have e_v51 : v51.toInt = 3 * v12.toInt := ml_i e_v51 li_3 rfl (by omega) (by omega)
      refine lv_iadd hx hb dX12_elects_52 ?_
      refine lv_topi (fun v52 e_v52 => ?_)
      have e_v52 : v52.toInt = 16 + v51.toInt := ad_i e_v52 li_16 rfl (by omega) (by omega)
      refine lv_iconst (v := 2) hx hb dX12_elects_53 (by decide) ?_
      refine lv_iadd hx hb dX12_elects_54 ?_
      refine lv_topi (fun v54 e_v54 => ?_)
      have e_v54 : v54.toInt = v52.toInt + 2 := ad_i e_v54 rfl li_2 (by omega) (by omega)
      refine lv_dup2_11 hx hb dX12_elects_55 rfl rfl ?_
      refine t_iald hx hb hw k_f0 rfl rfl (by omega) (show v54.toInt < 306 by omega) dX12_elects_56 (fun v56 r_v56 s_v56 q_v56 => ?_)
      have l_v56 := i32_lo v56
      have h_v56 := i32_hi v56
      refine lv_iconst (v := 1) hx hb dX12_elects_57 (by decide) ?_
      refine lv_iadd hx hb dX12_elects_58 ?_
      refine lv_topi (fun v58 e_v58 => ?_)
      have l_v58 := i32_lo v58
      have h_v58 := i32_hi v58
      refine t_iast hx hb hw k_f0 rfl rfl (by omega) (show v54.toInt < 306 by omega) (by rw [fr_63 (by omega) (by omega)]; exact i32_lo _) (by rw [fr_63 (by omega) (by omega)]; exact i32_hi _) dX12_elects_59 (fun w_4 H locs hw u => ?_)
      have hM := hM.up3 u k_f0 (by decide)
      have f_a0_X12_20 := u.1 _ _ _ _ f_a0_X12_20
      have f_f0_M_said_10 := u.2.2.1 _ _ _ f_f0_M_said_10 (Or.inr (by rw [show (10 : Int32).toInt.toNat = 10 by decide]; omega))
      have f_f0_M_said_11 := u.2.2.1 _ _ _ f_f0_M_said_11 (Or.inr (by rw [show (11 : Int32).toInt.toNat = 11 by decide]; omega))
      have f_f0_M_said_12 := u.2.2.1 _ _ _ f_f0_M_said_12 (Or.inr (by rw [show (12 : Int32).toInt.toNat = 12 by decide]; omega))
      refine lv_aload_n hx hb dX12_elects_60 rfl (lv_at hl 1 rfl) ?_
      refine lv_dup hx hb dX12_elects_61 rfl ?_
      refine t_geti (ci := 12) (C := RX12) (T := TX12) (N := 38) hx hb hts iX12 hown hw k_a0 rfl rfl rfl 24 (by decide) (hts _ tw_1149) (fun _ h9 => h9) dX12_elects_62 rfl (fun v62 l_v62 h_v62 f_a0_X12_24 => ?_)
      have l_v62 : (-2147483648) ≤ v62.toInt := l_v62
      have h_v62 : v62.toInt ≤ 2147483647 := h_v62
      refine lv_iconst (v := 1) hx hb dX12_elects_65 (by decide) ?_
      refine lv_iadd hx hb dX12_elects_66 ?_
      refine lv_topi (fun v66 e_v66 => ?_)
      have l_v66 := i32_lo v66
      have h_v66 := i32_hi v66
      refine t_put (ci := 12) (C := RX12) (T := TX12) (N := 38) (v := .int v66) hx hb hts iX12 tyX12 tyX12_ok nmX12 hown hw k_a0 rfl rfl rfl 24 (by decide) (hts _ tw_1149) (fun _ h9 => h9) rfl (tyX12_ok 24 (by decide)) rfl rfl (okV.int rfl (by omega) (by omega)) dX12_elects_67 (fun w_5 H locs hw u => ?_)
      have hM := hM.up1 u (by decide)
      have f_a0_X12_20 := u.1 _ _ _ _ f_a0_X12_20 (Or.inr (Or.inr (by decide)))
      have f_f0_M_said_10 := u.elt f_f0_M_said_10
      have f_f0_M_said_11 := u.elt f_f0_M_said_11
      have f_f0_M_said_12 := u.elt f_f0_M_said_12
      have f_a0_X12_24 := u.2.2
      rw [hQ]
      refine W.widen (k := 0) (n := 0) (Nat.le_refl _) (Nat.le_refl _) ?_
      exact W.vret hx hb hr (fun t ht hW => ⟨⟨w_5, rfl, ⟨hw.2.2.2.2, hM, f_f0_M_said_10⟩, by rw [ht]; exact hw.2.1, va_K.moved hW.alike hw.1, hw.2.2.1⟩, hw.2.2.2.1.F ht⟩) hw.2.2.2.1.2.2 dX12_elects_70
    · simp only [fa_lt, fa_le, fa_eq, li_0] at c_17
      rw [hQ]
      refine W.widen (k := 0) (n := 0) (Nat.le_refl _) (Nat.le_refl _) ?_
      exact W.vret hx hb hr (fun t ht hW => ⟨⟨w_1, rfl, ⟨hw.2.2.2.2, hM, f_f0_M_said_10⟩, by rw [ht]; exact hw.2.1, va_K.moved hW.alike hw.1, hw.2.2.1⟩, hw.2.2.2.1.F ht⟩) hw.2.2.2.1.2.2 dX12_elects_20
  · simp only [fa_lt, fa_le, fa_eq, li_0] at c_7
    rw [hQ]
    refine W.widen (k := 0) (n := 0) (Nat.le_refl _) (Nat.le_refl _) ?_
    exact W.vret hx hb hr (fun t ht hW => ⟨⟨ws, rfl, ⟨hw.2.2.2.2, hM, f_f0_M_said_10⟩, by rw [ht]; exact hw.2.1, va_K.moved hW.alike hw.1, hw.2.2.1⟩, hw.2.2.2.1.F ht⟩) hw.2.2.2.1.2.2 dX12_elects_10
set_option maxHeartbeats 4000000 in
set_option maxRecDepth 100000 in
theorem t_X12_passes (l : Launch) (dC : Nat → ClassId) (dI : Nat → Nat → Nat) (tys : List (ClassId × FieldType)) (κ : tK) (B : Nat) (ws : va_W) (hT : Ty κ tys B ws) (a0 : Nat) (k_a0 : κ a0 = some 12) (f0 : Nat) (k_f0 : κ f0 = some 63) (f_a0_X12_20 : fld ws a0 12 20 (.ref f0)) (f1 : Int32) (l_f1 : 0 ≤ f1.toInt) (h_f1 : f1.toInt ≤ 1998) (f_f0_M_said_10 : elt ws f0 (10 : Int32).toInt.toNat f1) (hRT : RT κ ws a0) (sz : Nat) : Met l yX12_passes (ws_u yX12_passes cX12_passes 2 none) ({ frames := 8, cells := 0, slots := 0, locals := 189 }) (va_Pc [.ref a0] (cPre (dC, dI) tys ws sz)) (va_Qv (fun (w : va_W) => Ty κ tys B w ∧ Sm [(12, 18), (12, 24)] [61, 62, 63, 64] κ ws w ∧ (∃ (xd : Int32), 0 ≤ xd.toInt ∧ xd.toInt ≤ 1999 ∧ elt w f0 (10 : Int32).toInt.toNat xd ∧ xd.toInt = f1.toInt + 1)) (fun w t => cPost (dC, dI) tys w (va_A ws sz) t) (va_A ws sz)) 0 0 (va_A ws sz) := by
  refine Met.ofW (cc := cX12_passes) (maxL := 2) (ret := none) (by decide) rfl ?_
  intro p e s m args below meth c s₁ B0 hml hv
  obtain ⟨rfl, hsz, hP, hK, hD0, hE⟩ := hv
  have hx := B0.exec
  have hb := B0.bytes
  have hr := B0.returns
  have hts0 := atoms_spec (ws := ws_u yX12_passes cX12_passes 2 none) B0.pre
  have hts : ∀ w ∈ gT, w.before _ s = true := fun w h => hts0 w (List.mem_cons_of_mem _ h)
  have hown : s.vm.findClass RX12 = some m.cls := findClass_of_methodNamed B0.named
  have hlocks := B0.notSynchronized
  subst hsz
  have hD := hD0.self (sz := s.heap.size)
  generalize hAe : va_A ws s.heap.size = A at hD ⊢
  have hA : ∀ q : Nat, s.heap.size ≤ q → A q := fun q h => by rw [← hAe]; exact Or.inr h
  have hw : tW (dC, dI) tys κ B A s ws s.heap [] := ⟨hK, hP, hD, va_S.rf, hT⟩
  have hM : Sm [(12, 18), (12, 24)] [61, 62, 63, 64] κ ws ws := Sm.rf
  clear hP hK hD hD0 hts0
  have hl := lv_entry ([.ref a0]) (n := 2) (Nat.le_of_ble_eq_true rfl)
  rw [lg_entry_eq]
  generalize (lg_sl ([.ref a0]) ++ List.replicate (2 - (lg_sl ([.ref a0])).length) Slot.unset).toArray = ls at hl ⊢
  have hl : lv_has ls 2 [(0, .ref a0)] := hl
  refine t_start (fun QQ hQ => ?_)
  refine lv_aload_n hx hb dX12_passes_0 rfl (lv_at hl 0 rfl) ?_
  refine t_callv (va_runV (As := []) (rest := []) ⟨hx, hb, hml, hown, hts⟩ (t_X12_elects l dC dI tys κ B ws hw.2.2.2.2 a0 k_a0 f0 k_f0 f_a0_X12_20 f1 (by omega) (by omega) f_f0_M_said_10 (hRT.sm hM (by decide) (by decide)) s.heap.size) (cwV 0 hts (gUV tw_1501 tw_1503 ts_5_15 tw_13 tw_1504) rfl rfl rfl (by decide +kernel) ⟨(Nat.le_of_ble_eq_true rfl), (Nat.le_of_ble_eq_true rfl)⟩) ⟨cPre.blind, t_recv hw (ci := 12) k_a0 rfl rfl, cPre.use hw.2.1 hw.1 hw.2.2.1 hE⟩ rfl rfl hl.1 rfl (lv_room (Nat.le_of_ble_eq_true rfl)) dX12_passes_1 ⟨(Nat.le_of_ble_eq_true rfl), (Nat.le_of_ble_eq_true rfl)⟩) hw hA (fun _ h => h.1) (fun w_1 H locs hp hw => ?_)
  obtain ⟨_, hm, f_f0_M_said_10⟩ := hp
  have hM := hM.trans hm (by decide) (by decide)
  have f_a0_X12_20 := hm.1 _ _ _ _ f_a0_X12_20 (by decide)
  refine lv_iconst (v := 0) hx hb dX12_passes_4 (by decide) ?_
  refine lv_istore_n (lv' := [(1, .int 0), (0, .ref a0)]) hx hb dX12_passes_5 rfl hl (by decide) rfl (fun ls hl => ?_)
  have J6 : ∀ (n : Nat) (H : Heap) (locs : List Loc) (ls : Array Slot), (∃ (w6 : va_W) (p6_l1 : Int32), tW (dC, dI) tys κ B A s w6 H locs ∧ Sm [(12, 18), (12, 24)] [61, 62, 63, 64] κ ws w6 ∧ 0 ≤ p6_l1.toInt ∧ p6_l1.toInt ≤ 6 ∧ fld w6 a0 12 20 (.ref f0) ∧ elt w6 f0 (10 : Int32).toInt.toNat f1 ∧ lv_has ls 2 [(0, .ref a0), (1, .int p6_l1)] ∧ (6 - p6_l1.toInt).toNat = n) → W p l e (headSpec (ws_u yX12_passes cX12_passes 2 none) ({ frames := 8, cells := 0, slots := 0, locals := 189 })).room s m ([.ref a0] : List Value).toArray below meth c H locs 0 0 QQ (F0 m 6 ls []) := by
    refine loopT _ ?_
    intro n_6 H locs ls hI ih_6
    obtain ⟨w6, p6_l1, hw, hM, l_p6_l1, h_p6_l1, f_a0_X12_20, f_f0_M_said_10, hl, hn_6⟩ := hI
    refine lv_iload_n hx hb dX12_passes_6 rfl (lv_at hl 1 rfl) ?_
    refine lv_aload_n hx hb dX12_passes_7 rfl (lv_at hl 0 rfl) ?_
    refine t_getk (ci := 12) (C := RX12) (T := TX12) (N := 38) hx hb hts iX12 hown hw rfl 20 (by decide) (hts _ tw_1145) (fun _ h9 => h9) dX12_passes_8 f_a0_X12_20 ?_
    refine lv_iconst (v := 5) hx hb dX12_passes_11 (by decide) ?_
    refine t_iald hx hb hw k_f0 rfl rfl (by decide) (by decide) dX12_passes_12 (fun v12 r_v12 s_v12 f_f0_M_said_5 => ?_)
    have l_v12 : 0 ≤ v12.toInt := by rw [iv_63_5] at r_v12; exact r_v12
    have h_v12 : v12.toInt ≤ 6 := by rw [iv_63_5] at s_v12; exact s_v12
    have J75 : ∀ (H : Heap) (locs : List Loc) (ls : Array Slot) (w75 : va_W), tW (dC, dI) tys κ B A s w75 H locs → Sm [(12, 18), (12, 24)] [61, 62, 63, 64] κ ws w75 → fld w75 a0 12 20 (.ref f0) → elt w75 f0 (10 : Int32).toInt.toNat f1 → elt w75 f0 (5 : Int32).toInt.toNat v12 → lv_has ls 2 [(0, .ref a0), (1, .int p6_l1)] → W p l e (headSpec (ws_u yX12_passes cX12_passes 2 none) ({ frames := 8, cells := 0, slots := 0, locals := 189 })).room s m ([.ref a0] : List Value).toArray below meth c H locs 0 0 QQ (F0 m 75 ls []) := by
      intro H locs ls w75 hw hM f_a0_X12_20 f_f0_M_said_10 f_f0_M_said_5 hl
      refine lv_iconst (v := 0) hx hb dX12_passes_75 (by decide) ?_
      refine lv_istore_n (lv' := [(1, .int 0), (0, .ref a0)]) hx hb dX12_passes_76 rfl hl (by decide) rfl (fun ls hl => ?_)
      have J77 : ∀ (n : Nat) (H : Heap) (locs : List Loc) (ls : Array Slot), (∃ (w77 : va_W) (p77_l1 : Int32), tW (dC, dI) tys κ B A s w77 H locs ∧ Sm [(12, 18), (12, 24)] [61, 62, 63, 64] κ ws w77 ∧ 0 ≤ p77_l1.toInt ∧ p77_l1.toInt ≤ 6 ∧ fld w77 a0 12 20 (.ref f0) ∧ elt w77 f0 (10 : Int32).toInt.toNat f1 ∧ lv_has ls 2 [(0, .ref a0), (1, .int p77_l1)] ∧ (6 - p77_l1.toInt).toNat = n) → W p l e (headSpec (ws_u yX12_passes cX12_passes 2 none) ({ frames := 8, cells := 0, slots := 0, locals := 189 })).room s m ([.ref a0] : List Value).toArray below meth c H locs 0 0 QQ (F0 m 77 ls []) := by
        refine loopT _ ?_
        intro n_77 H locs ls hI ih_77
        obtain ⟨w77, p77_l1, hw, hM, l_p77_l1, h_p77_l1, f_a0_X12_20, f_f0_M_said_10, hl, hn_77⟩ := hI
        refine lv_iload_n hx hb dX12_passes_77 rfl (lv_at hl 1 rfl) ?_
        refine lv_aload_n hx hb dX12_passes_78 rfl (lv_at hl 0 rfl) ?_
        refine t_getk (ci := 12) (C := RX12) (T := TX12) (N := 38) hx hb hts iX12 hown hw rfl 20 (by decide) (hts _ tw_1145) (fun _ h9 => h9) dX12_passes_79 f_a0_X12_20 ?_
        refine lv_iconst (v := 3) hx hb dX12_passes_82 (by decide) ?_
        refine t_iald hx hb hw k_f0 rfl rfl (by decide) (by decide) dX12_passes_83 (fun v83 r_v83 s_v83 f_f0_M_said_3 => ?_)
        have l_v83 : 0 ≤ v83.toInt := by rw [iv_63_3] at r_v83; exact r_v83
        have h_v83 : v83.toInt ≤ 6 := by rw [iv_63_3] at s_v83; exact s_v83
        refine lv_icmp_ge (tgt := 142) hx hb dX12_passes_84 (by decide) (fun c_84 => ?_) (fun c_84 => ?_)
        · simp only [fa_lt, fa_le, fa_eq] at c_84
          refine lv_aload_n hx hb dX12_passes_142 rfl (lv_at hl 0 rfl) ?_
          refine t_getk (ci := 12) (C := RX12) (T := TX12) (N := 38) hx hb hts iX12 hown hw rfl 20 (by decide) (hts _ tw_1145) (fun _ h9 => h9) dX12_passes_143 f_a0_X12_20 ?_
          refine lv_bipush (v := 11) hx hb dX12_passes_146 (by decide) ?_
          refine t_iald hx hb hw k_f0 rfl rfl (by decide) (by decide) dX12_passes_148 (fun v148 r_v148 s_v148 f_f0_M_said_11 => ?_)
          have l_v148 : (-1) ≤ v148.toInt := by rw [iv_63_11] at r_v148; exact r_v148
          have h_v148 : v148.toInt ≤ 5 := by rw [iv_63_11] at s_v148; exact s_v148
          have J208 : ∀ (H : Heap) (locs : List Loc) (ls : Array Slot) (w208 : va_W) (p208_m_f0_M_said_11 : Int32), tW (dC, dI) tys κ B A s w208 H locs → Sm [(12, 18), (12, 24)] [61, 62, 63, 64] κ ws w208 → (-1) ≤ p208_m_f0_M_said_11.toInt → p208_m_f0_M_said_11.toInt ≤ 5 → fld w208 a0 12 20 (.ref f0) → elt w208 f0 (10 : Int32).toInt.toNat f1 → elt w208 f0 (11 : Int32).toInt.toNat p208_m_f0_M_said_11 → elt w208 f0 (3 : Int32).toInt.toNat v83 → lv_has ls 2 [(0, .ref a0), (1, .int p77_l1)] → W p l e (headSpec (ws_u yX12_passes cX12_passes 2 none) ({ frames := 8, cells := 0, slots := 0, locals := 189 })).room s m ([.ref a0] : List Value).toArray below meth c H locs 0 0 QQ (F0 m 208 ls []) := by
            intro H locs ls w208 p208_m_f0_M_said_11 hw hM l_p208_m_f0_M_said_11 h_p208_m_f0_M_said_11 f_a0_X12_20 f_f0_M_said_10 f_f0_M_said_11 f_f0_M_said_3 hl
            refine lv_aload_n hx hb dX12_passes_208 rfl (lv_at hl 0 rfl) ?_
            refine t_callv (va_runV (As := []) (rest := []) ⟨hx, hb, hml, hown, hts⟩ (t_X12_agesAll l dC dI tys κ B w208 hw.2.2.2.2 a0 k_a0 f0 k_f0 f_a0_X12_20 f1 (by omega) (by omega) f_f0_M_said_10 H.size) (cwV 0 hts (gUV tw_1567 tw_1569 ts_6_14 tw_13 tw_1570) rfl rfl rfl (by decide +kernel) ⟨(Nat.le_of_ble_eq_true rfl), (Nat.le_of_ble_eq_true rfl)⟩) ⟨cPre.blind, t_recv hw (ci := 12) k_a0 rfl rfl, cPre.use hw.2.1 hw.1 hw.2.2.1 hE⟩ rfl rfl hl.1 rfl (lv_room (Nat.le_of_ble_eq_true rfl)) dX12_passes_209 ⟨(Nat.le_of_ble_eq_true rfl), (Nat.le_of_ble_eq_true rfl)⟩) hw hA (fun _ h => h.1) (fun w_2 H locs hp hw => ?_)
            obtain ⟨_, hm, f_f0_M_said_10⟩ := hp
            have hM := hM.trans hm (by decide) (by decide)
            have f_a0_X12_20 := hm.1 _ _ _ _ f_a0_X12_20 (by decide)
            refine lv_aload_n hx hb dX12_passes_212 rfl (lv_at hl 0 rfl) ?_
            refine t_getk (ci := 12) (C := RX12) (T := TX12) (N := 38) hx hb hts iX12 hown hw rfl 20 (by decide) (hts _ tw_1145) (fun _ h9 => h9) dX12_passes_213 f_a0_X12_20 ?_
            refine lv_bipush (v := 15) hx hb dX12_passes_216 (by decide) ?_
            refine lv_iconst (v := 0) hx hb dX12_passes_218 (by decide) ?_
            refine t_iast hx hb hw k_f0 rfl rfl (by decide) (by decide) (by rw [iv_63_15]; exact i32_lo _) (by rw [iv_63_15]; exact i32_hi _) dX12_passes_219 (fun w_3 H locs hw u => ?_)
            have hM := hM.up3 u k_f0 (by decide)
            have f_a0_X12_20 := u.1 _ _ _ _ f_a0_X12_20
            have f_f0_M_said_10 := u.2.2.1 _ _ _ f_f0_M_said_10 (Or.inr (by decide))
            have f_f0_M_said_15 := u.2.2.2
            refine lv_aload_n hx hb dX12_passes_220 rfl (lv_at hl 0 rfl) ?_
            refine t_getk (ci := 12) (C := RX12) (T := TX12) (N := 38) hx hb hts iX12 hown hw rfl 20 (by decide) (hts _ tw_1145) (fun _ h9 => h9) dX12_passes_221 f_a0_X12_20 ?_
            refine lv_bipush (v := 10) hx hb dX12_passes_224 (by decide) ?_
            refine lv_dup2_11 hx hb dX12_passes_226 rfl rfl ?_
            refine t_ialdk hx hb hw k_f0 rfl rfl (by decide) (by decide) f_f0_M_said_10 dX12_passes_227 ?_
            refine lv_iconst (v := 1) hx hb dX12_passes_228 (by decide) ?_
            refine lv_iadd hx hb dX12_passes_229 ?_
            refine lv_topi (fun v229 e_v229 => ?_)
            have e_v229 : v229.toInt = f1.toInt + 1 := ad_i e_v229 rfl li_1 (by omega) (by omega)
            refine t_iast hx hb hw k_f0 rfl rfl (by decide) (by decide) (by rw [iv_63_10]; exact (show 0 ≤ v229.toInt by omega)) (by rw [iv_63_10]; exact (show v229.toInt ≤ 1999 by omega)) dX12_passes_230 (fun w_4 H locs hw u => ?_)
            have hM := hM.up3 u k_f0 (by decide)
            have f_a0_X12_20 := u.1 _ _ _ _ f_a0_X12_20
            have f_f0_M_said_10 := u.2.2.2
            have f_f0_M_said_15 := u.2.2.1 _ _ _ f_f0_M_said_15 (Or.inr (by decide))
            rw [hQ]
            refine W.widen (k := 0) (n := 0) (Nat.le_refl _) (Nat.le_refl _) ?_
            exact W.vret hx hb hr (fun t ht hW => ⟨⟨w_4, rfl, ⟨hw.2.2.2.2, hM, ⟨v229, (by omega), (by omega), f_f0_M_said_10, (by omega)⟩⟩, by rw [ht]; exact hw.2.1, va_K.moved hW.alike hw.1, hw.2.2.1⟩, hw.2.2.2.1.F ht⟩) hw.2.2.2.1.2.2 dX12_passes_231
          refine lv_if_lt (tgt := 208) hx hb dX12_passes_149 (by decide) (fun c_149 => ?_) (fun c_149 => ?_)
          · simp only [fa_lt, fa_le, fa_eq, li_0] at c_149
            exact J208 _ _ _ w77 v148 hw hM (by omega) (by omega) f_a0_X12_20 f_f0_M_said_10 f_f0_M_said_11 f_f0_M_said_3 (lv_sub hl [0, 1] rfl)
          · simp only [fa_lt, fa_le, fa_eq, li_0] at c_149
            refine lv_aload_n hx hb dX12_passes_152 rfl (lv_at hl 0 rfl) ?_
            refine lv_aload_n hx hb dX12_passes_153 rfl (lv_at hl 0 rfl) ?_
            refine t_getk (ci := 12) (C := RX12) (T := TX12) (N := 38) hx hb hts iX12 hown hw rfl 20 (by decide) (hts _ tw_1145) (fun _ h9 => h9) dX12_passes_154 f_a0_X12_20 ?_
            refine lv_bipush (v := 11) hx hb dX12_passes_157 (by decide) ?_
            refine t_ialdk hx hb hw k_f0 rfl rfl (by decide) (by decide) f_f0_M_said_11 dX12_passes_159 ?_
            refine t_calli (va_runV (As := [.int v148]) (rest := []) ⟨hx, hb, hml, hown, hts⟩ (t_X12_isSound l dC dI tys κ B w77 hw.2.2.2.2 a0 k_a0 v148 H.size) (cwV 1 hts (gUV tw_1517 tw_1519 ts_6_3 tw_13 tw_1520) rfl rfl rfl (by decide +kernel) ⟨(Nat.le_of_ble_eq_true rfl), (Nat.le_of_ble_eq_true rfl)⟩) ⟨cPre.blind, t_recv hw (ci := 12) k_a0 rfl rfl, cPre.use hw.2.1 hw.1 hw.2.2.1 hE⟩ rfl rfl hl.1 rfl (lv_room (Nat.le_of_ble_eq_true rfl)) dX12_passes_160 ⟨(Nat.le_of_ble_eq_true rfl), (Nat.le_of_ble_eq_true rfl)⟩) hw hA (fun _ _ h => h.2.2.1) (fun v160 w_5 H locs hp hw => ?_)
            obtain ⟨l_v160, h_v160, _, hm, x_v160_0⟩ := hp
            have hM := hM.trans hm (by decide) (by decide)
            have f_a0_X12_20 := hm.1 _ _ _ _ f_a0_X12_20 (by decide)
            have f_f0_M_said_10 := hm.elt k_f0 (by decide) f_f0_M_said_10
            have f_f0_M_said_3 := hm.elt k_f0 (by decide) f_f0_M_said_3
            have f_f0_M_said_11 := hm.elt k_f0 (by decide) f_f0_M_said_11
            have J192 : ∀ (H : Heap) (locs : List Loc) (ls : Array Slot) (w192 : va_W), tW (dC, dI) tys κ B A s w192 H locs → Sm [(12, 18), (12, 24)] [61, 62, 63, 64] κ ws w192 → fld w192 a0 12 20 (.ref f0) → elt w192 f0 (10 : Int32).toInt.toNat f1 → elt w192 f0 (11 : Int32).toInt.toNat v148 → elt w192 f0 (3 : Int32).toInt.toNat v83 → lv_has ls 2 [(0, .ref a0), (1, .int p77_l1)] → W p l e (headSpec (ws_u yX12_passes cX12_passes 2 none) ({ frames := 8, cells := 0, slots := 0, locals := 189 })).room s m ([.ref a0] : List Value).toArray below meth c H locs 0 0 QQ (F0 m 192 ls []) := by
              intro H locs ls w192 hw hM f_a0_X12_20 f_f0_M_said_10 f_f0_M_said_11 f_f0_M_said_3 hl
              refine lv_aload_n hx hb dX12_passes_192 rfl (lv_at hl 0 rfl) ?_
              refine t_getk (ci := 12) (C := RX12) (T := TX12) (N := 38) hx hb hts iX12 hown hw rfl 20 (by decide) (hts _ tw_1145) (fun _ h9 => h9) dX12_passes_193 f_a0_X12_20 ?_
              refine lv_bipush (v := 11) hx hb dX12_passes_196 (by decide) ?_
              refine lv_iconst (v := (-1)) hx hb dX12_passes_198 (by decide) ?_
              refine t_iast hx hb hw k_f0 rfl rfl (by decide) (by decide) (by rw [iv_63_11]; exact (show (-1) ≤ ((-1) : Int32).toInt by decide)) (by rw [iv_63_11]; exact (show ((-1) : Int32).toInt ≤ 5 by decide)) dX12_passes_199 (fun w_6 H locs hw u => ?_)
              have hM := hM.up3 u k_f0 (by decide)
              have f_a0_X12_20 := u.1 _ _ _ _ f_a0_X12_20
              have f_f0_M_said_10 := u.2.2.1 _ _ _ f_f0_M_said_10 (Or.inr (by decide))
              have f_f0_M_said_11 := u.2.2.2
              have f_f0_M_said_3 := u.2.2.1 _ _ _ f_f0_M_said_3 (Or.inr (by decide))
              refine lv_aload_n hx hb dX12_passes_200 rfl (lv_at hl 0 rfl) ?_
              refine t_getk (ci := 12) (C := RX12) (T := TX12) (N := 38) hx hb hts iX12 hown hw rfl 20 (by decide) (hts _ tw_1145) (fun _ h9 => h9) dX12_passes_201 f_a0_X12_20 ?_
              refine lv_bipush (v := 12) hx hb dX12_passes_204 (by decide) ?_
              refine lv_iconst (v := (-1)) hx hb dX12_passes_206 (by decide) ?_
              refine t_iast hx hb hw k_f0 rfl rfl (by decide) (by decide) (by rw [iv_63_12]; exact i32_lo _) (by rw [iv_63_12]; exact i32_hi _) dX12_passes_207 (fun w_7 H locs hw u => ?_)
              have hM := hM.up3 u k_f0 (by decide)
              have f_a0_X12_20 := u.1 _ _ _ _ f_a0_X12_20
              have f_f0_M_said_10 := u.2.2.1 _ _ _ f_f0_M_said_10 (Or.inr (by decide))
              have f_f0_M_said_11 := u.2.2.1 _ _ _ f_f0_M_said_11 (Or.inr (by decide))
              have f_f0_M_said_3 := u.2.2.1 _ _ _ f_f0_M_said_3 (Or.inr (by decide))
              have f_f0_M_said_12 := u.2.2.2
              exact J208 _ _ _ w_7 (-1) hw hM (by decide) (by decide) f_a0_X12_20 f_f0_M_said_10 f_f0_M_said_11 f_f0_M_said_3 (lv_sub hl [0, 1] rfl)
            refine lv_if_eq (tgt := 192) hx hb dX12_passes_163 (by decide) (fun c_163 => ?_) (fun c_163 => ?_)
            · simp only [fa_lt, fa_le, fa_eq, li_0] at c_163
              exact J192 _ _ _ w_5 hw hM f_a0_X12_20 f_f0_M_said_10 f_f0_M_said_11 f_f0_M_said_3 (lv_sub hl [0, 1] rfl)
            · simp only [fa_lt, fa_le, fa_eq, li_0] at c_163
              refine lv_aload_n hx hb dX12_passes_166 rfl (lv_at hl 0 rfl) ?_
              refine t_getk (ci := 12) (C := RX12) (T := TX12) (N := 38) hx hb hts iX12 hown hw rfl 20 (by decide) (hts _ tw_1145) (fun _ h9 => h9) dX12_passes_167 f_a0_X12_20 ?_
              refine lv_bipush (v := 10) hx hb dX12_passes_170 (by decide) ?_
              refine t_ialdk hx hb hw k_f0 rfl rfl (by decide) (by decide) f_f0_M_said_10 dX12_passes_172 ?_
              refine lv_aload_n hx hb dX12_passes_173 rfl (lv_at hl 0 rfl) ?_
              refine t_getk (ci := 12) (C := RX12) (T := TX12) (N := 38) hx hb hts iX12 hown hw rfl 20 (by decide) (hts _ tw_1145) (fun _ h9 => h9) dX12_passes_174 f_a0_X12_20 ?_
              refine lv_bipush (v := 12) hx hb dX12_passes_177 (by decide) ?_
              refine t_iald hx hb hw k_f0 rfl rfl (by decide) (by decide) dX12_passes_179 (fun v179 r_v179 s_v179 f_f0_M_said_12 => ?_)
              have l_v179 := i32_lo v179
              have h_v179 := i32_hi v179
              refine lv_isub hx hb dX12_passes_180 ?_
              refine lv_topi (fun v180 e_v180 => ?_)
              have l_v180 := i32_lo v180
              have h_v180 := i32_hi v180
              refine lv_iconst (v := 1) hx hb dX12_passes_181 (by decide) ?_
              refine lv_iadd hx hb dX12_passes_182 ?_
              refine lv_topi (fun v182 e_v182 => ?_)
              have l_v182 := i32_lo v182
              have h_v182 := i32_hi v182
              refine lv_aload_n hx hb dX12_passes_183 rfl (lv_at hl 0 rfl) ?_
              refine t_getk (ci := 12) (C := RX12) (T := TX12) (N := 38) hx hb hts iX12 hown hw rfl 20 (by decide) (hts _ tw_1145) (fun _ h9 => h9) dX12_passes_184 f_a0_X12_20 ?_
              refine lv_iconst (v := 1) hx hb dX12_passes_187 (by decide) ?_
              refine t_iald hx hb hw k_f0 rfl rfl (by decide) (by decide) dX12_passes_188 (fun v188 r_v188 s_v188 f_f0_M_said_1 => ?_)
              have l_v188 := i32_lo v188
              have h_v188 := i32_hi v188
              refine lv_icmp_lt (tgt := 208) hx hb dX12_passes_189 (by decide) (fun c_189 => ?_) (fun c_189 => ?_)
              · simp only [fa_lt, fa_le, fa_eq] at c_189
                exact J208 _ _ _ w_5 v148 hw hM (by omega) (by omega) f_a0_X12_20 f_f0_M_said_10 f_f0_M_said_11 f_f0_M_said_3 (lv_sub hl [0, 1] rfl)
              · simp only [fa_lt, fa_le, fa_eq] at c_189
                exact J192 _ _ _ w_5 hw hM f_a0_X12_20 f_f0_M_said_10 f_f0_M_said_11 f_f0_M_said_3 (lv_sub hl [0, 1] rfl)
        · simp only [fa_lt, fa_le, fa_eq] at c_84
          refine lv_aload_n hx hb dX12_passes_87 rfl (lv_at hl 0 rfl) ?_
          refine lv_iload_n hx hb dX12_passes_88 rfl (lv_at hl 1 rfl) ?_
          refine t_calli (va_runV (As := [.int p77_l1]) (rest := []) ⟨hx, hb, hml, hown, hts⟩ (t_X12_isSound l dC dI tys κ B w77 hw.2.2.2.2 a0 k_a0 p77_l1 H.size) (cwV 1 hts (gUV tw_1517 tw_1519 ts_6_3 tw_13 tw_1520) rfl rfl rfl (by decide +kernel) ⟨(Nat.le_of_ble_eq_true rfl), (Nat.le_of_ble_eq_true rfl)⟩) ⟨cPre.blind, t_recv hw (ci := 12) k_a0 rfl rfl, cPre.use hw.2.1 hw.1 hw.2.2.1 hE⟩ rfl rfl hl.1 rfl (lv_room (Nat.le_of_ble_eq_true rfl)) dX12_passes_89 ⟨(Nat.le_of_ble_eq_true rfl), (Nat.le_of_ble_eq_true rfl)⟩) hw hA (fun _ _ h => h.2.2.1) (fun v89 w_8 H locs hp hw => ?_)
          obtain ⟨l_v89, h_v89, _, hm, x_v89_0⟩ := hp
          have hM := hM.trans hm (by decide) (by decide)
          have f_a0_X12_20 := hm.1 _ _ _ _ f_a0_X12_20 (by decide)
          have f_f0_M_said_10 := hm.elt k_f0 (by decide) f_f0_M_said_10
          have f_f0_M_said_3 := hm.elt k_f0 (by decide) f_f0_M_said_3
          have J136 : ∀ (H : Heap) (locs : List Loc) (ls : Array Slot) (w136 : va_W), tW (dC, dI) tys κ B A s w136 H locs → Sm [(12, 18), (12, 24)] [61, 62, 63, 64] κ ws w136 → fld w136 a0 12 20 (.ref f0) → elt w136 f0 (10 : Int32).toInt.toNat f1 → lv_has ls 2 [(0, .ref a0), (1, .int p77_l1)] → W p l e (headSpec (ws_u yX12_passes cX12_passes 2 none) ({ frames := 8, cells := 0, slots := 0, locals := 189 })).room s m ([.ref a0] : List Value).toArray below meth c H locs 0 0 QQ (F0 m 136 ls []) := by
            intro H locs ls w136 hw hM f_a0_X12_20 f_f0_M_said_10 hl
            obtain ⟨v136, e_v136⟩ : ∃ y : Int32, y = p77_l1 + 1 := ⟨_, rfl⟩
            refine lv_iinc (v := v136) (lv' := [(1, .int v136), (0, .ref a0)]) hx hb dX12_passes_136 hl (k := 1) rfl e_v136.symm (by decide) rfl (fun ls hl => ?_)
            have e_v136 : v136.toInt = p77_l1.toInt + 1 := ad_i e_v136 rfl li_1 (by omega) (by omega)
            refine lv_goto (tgt := 77) hx hb dX12_passes_139 (by decide) ?_
            exact ih_77 _ _ _ _ (by omega) ⟨w136, v136, hw, hM, (by omega), (by omega), f_a0_X12_20, f_f0_M_said_10, (lv_sub hl [1, 0] rfl), rfl⟩
          refine lv_if_ne (tgt := 98) hx hb dX12_passes_92 (by decide) (fun c_92 => ?_) (fun c_92 => ?_)
          · simp only [fa_lt, fa_le, fa_eq, li_0] at c_92
            refine lv_aload_n hx hb dX12_passes_98 rfl (lv_at hl 0 rfl) ?_
            refine t_getk (ci := 12) (C := RX12) (T := TX12) (N := 38) hx hb hts iX12 hown hw rfl 20 (by decide) (hts _ tw_1145) (fun _ h9 => h9) dX12_passes_99 f_a0_X12_20 ?_
            refine lv_bipush (v := 16) hx hb dX12_passes_102 (by decide) ?_
            refine lv_iconst (v := 3) hx hb dX12_passes_104 (by decide) ?_
            refine lv_iload_n hx hb dX12_passes_105 rfl (lv_at hl 1 rfl) ?_
            refine lv_imul hx hb dX12_passes_106 ?_
            refine lv_topi (fun v106 e_v106 => ?_)
            have e_v106 : v106.toInt = 3 * p77_l1.toInt := ml_i e_v106 li_3 rfl (by omega) (by omega)
            refine lv_iadd hx hb dX12_passes_107 ?_
            refine lv_topi (fun v107 e_v107 => ?_)
            have e_v107 : v107.toInt = 16 + v106.toInt := ad_i e_v107 li_16 rfl (by omega) (by omega)
            refine lv_dup2_11 hx hb dX12_passes_108 rfl rfl ?_
            refine t_iald hx hb hw k_f0 rfl rfl (by omega) (show v107.toInt < 306 by omega) dX12_passes_109 (fun v109 r_v109 s_v109 q_v109 => ?_)
            have l_v109 := i32_lo v109
            have h_v109 := i32_hi v109
            refine lv_aload_n hx hb dX12_passes_110 rfl (lv_at hl 0 rfl) ?_
            refine t_getk (ci := 12) (C := RX12) (T := TX12) (N := 38) hx hb hts iX12 hown hw rfl 20 (by decide) (hts _ tw_1145) (fun _ h9 => h9) dX12_passes_111 f_a0_X12_20 ?_
            refine lv_bipush (v := 52) hx hb dX12_passes_114 (by decide) ?_
            refine lv_iload_n hx hb dX12_passes_116 rfl (lv_at hl 1 rfl) ?_
            refine lv_iadd hx hb dX12_passes_117 ?_
            refine lv_topi (fun v117 e_v117 => ?_)
            have e_v117 : v117.toInt = 52 + p77_l1.toInt := ad_i e_v117 li_52 rfl (by omega) (by omega)
            refine t_iald hx hb hw k_f0 rfl rfl (by omega) (show v117.toInt < 306 by omega) dX12_passes_118 (fun v118 r_v118 s_v118 q_v118 => ?_)
            have l_v118 := i32_lo v118
            have h_v118 := i32_hi v118
            refine lv_isub hx hb dX12_passes_119 ?_
            refine lv_topi (fun v119 e_v119 => ?_)
            have l_v119 := i32_lo v119
            have h_v119 := i32_hi v119
            refine t_iast hx hb hw k_f0 rfl rfl (by omega) (show v107.toInt < 306 by omega) (by rw [fr_63 (by omega) (by omega)]; exact i32_lo _) (by rw [fr_63 (by omega) (by omega)]; exact i32_hi _) dX12_passes_120 (fun w_9 H locs hw u => ?_)
            have hM := hM.up3 u k_f0 (by decide)
            have f_a0_X12_20 := u.1 _ _ _ _ f_a0_X12_20
            have f_f0_M_said_10 := u.2.2.1 _ _ _ f_f0_M_said_10 (Or.inr (by rw [show (10 : Int32).toInt.toNat = 10 by decide]; omega))
            have f_f0_M_said_3 := u.2.2.1 _ _ _ f_f0_M_said_3 (Or.inr (by rw [show (3 : Int32).toInt.toNat = 3 by decide]; omega))
            refine lv_aload_n hx hb dX12_passes_121 rfl (lv_at hl 0 rfl) ?_
            refine lv_iload_n hx hb dX12_passes_122 rfl (lv_at hl 1 rfl) ?_
            refine lv_iconst (v := 0) hx hb dX12_passes_123 (by decide) ?_
            refine t_calli (va_runV (As := [.int p77_l1, .int 0]) (rest := []) ⟨hx, hb, hml, hown, hts⟩ (t_X12_boyOf l dC dI tys κ B w_9 hw.2.2.2.2 a0 k_a0 p77_l1 (by omega) (by omega) 0 (by decide) (by decide) H.size) (cwV 2 hts (gUV tw_1453 tw_1455 ts_5_8 tw_13 tw_1456) rfl rfl rfl (by decide +kernel) ⟨(Nat.le_of_ble_eq_true rfl), (Nat.le_of_ble_eq_true rfl)⟩) ⟨cPre.blind, t_recv hw (ci := 12) k_a0 rfl rfl, cPre.use hw.2.1 hw.1 hw.2.2.1 hE⟩ rfl rfl hl.1 rfl (lv_room (Nat.le_of_ble_eq_true rfl)) dX12_passes_124 ⟨(Nat.le_of_ble_eq_true rfl), (Nat.le_of_ble_eq_true rfl)⟩) hw hA (fun _ _ h => h.1) (fun v124 w_10 H locs hp hw => ?_)
            obtain ⟨_, hm⟩ := hp
            have l_v124 := i32_lo v124
            have h_v124 := i32_hi v124
            have hM := hM.trans hm (by decide) (by decide)
            have f_a0_X12_20 := hm.1 _ _ _ _ f_a0_X12_20 (by decide)
            have f_f0_M_said_10 := hm.elt k_f0 (by decide) f_f0_M_said_10
            have f_f0_M_said_3 := hm.elt k_f0 (by decide) f_f0_M_said_3
            refine lv_iconst (v := 1) hx hb dX12_passes_127 (by decide) ?_
            refine lv_icmp_ge (tgt := 136) hx hb dX12_passes_128 (by decide) (fun c_128 => ?_) (fun c_128 => ?_)
            · simp only [fa_lt, fa_le, fa_eq, li_1] at c_128
              exact J136 _ _ _ w_10 hw hM f_a0_X12_20 f_f0_M_said_10 (lv_sub hl [0, 1] rfl)
            · simp only [fa_lt, fa_le, fa_eq, li_1] at c_128
              refine lv_aload_n hx hb dX12_passes_131 rfl (lv_at hl 0 rfl) ?_
              refine lv_iload_n hx hb dX12_passes_132 rfl (lv_at hl 1 rfl) ?_
              refine t_callv (va_runV (As := [.int p77_l1]) (rest := []) ⟨hx, hb, hml, hown, hts⟩ (t_X12_breaksVoice l dC dI tys κ B w_10 hw.2.2.2.2 a0 k_a0 p77_l1 (by omega) (by omega) f0 k_f0 f_a0_X12_20 f1 (by omega) (by omega) f_f0_M_said_10 H.size) (cwV 1 hts (gUV tw_1563 tw_1565 ts_6_13 tw_13 tw_1566) rfl rfl rfl (by decide +kernel) ⟨(Nat.le_of_ble_eq_true rfl), (Nat.le_of_ble_eq_true rfl)⟩) ⟨cPre.blind, t_recv hw (ci := 12) k_a0 rfl rfl, cPre.use hw.2.1 hw.1 hw.2.2.1 hE⟩ rfl rfl hl.1 rfl (lv_room (Nat.le_of_ble_eq_true rfl)) dX12_passes_133 ⟨(Nat.le_of_ble_eq_true rfl), (Nat.le_of_ble_eq_true rfl)⟩) hw hA (fun _ h => h.1) (fun w_11 H locs hp hw => ?_)
              obtain ⟨_, hm, f_f0_M_said_10⟩ := hp
              have hM := hM.trans hm (by decide) (by decide)
              have f_a0_X12_20 := hm.1 _ _ _ _ f_a0_X12_20 (by decide)
              exact J136 _ _ _ w_11 hw hM f_a0_X12_20 f_f0_M_said_10 (lv_sub hl [0, 1] rfl)
          · simp only [fa_lt, fa_le, fa_eq, li_0] at c_92
            refine lv_goto (tgt := 136) hx hb dX12_passes_95 (by decide) ?_
            exact J136 _ _ _ w_8 hw hM f_a0_X12_20 f_f0_M_said_10 (lv_sub hl [0, 1] rfl)
      exact J77 _ _ _ _ ⟨w75, 0, hw, hM, (by decide), (by decide), f_a0_X12_20, f_f0_M_said_10, (lv_sub hl [1, 0] rfl), rfl⟩
    refine lv_icmp_ge (tgt := 75) hx hb dX12_passes_13 (by decide) (fun c_13 => ?_) (fun c_13 => ?_)
    · simp only [fa_lt, fa_le, fa_eq] at c_13
      exact J75 _ _ _ w6 hw hM f_a0_X12_20 f_f0_M_said_10 f_f0_M_said_5 (lv_sub hl [0, 1] rfl)
    · simp only [fa_lt, fa_le, fa_eq] at c_13
      refine lv_aload_n hx hb dX12_passes_16 rfl (lv_at hl 0 rfl) ?_
      refine t_calli (va_runV (As := []) (rest := []) ⟨hx, hb, hml, hown, hts⟩ (t_X12_isSnow l dC dI tys κ B w6 hw.2.2.2.2 a0 k_a0 H.size) (cwV 0 hts (gUV tw_1556 tw_1558 ts_6_12 tw_13 tw_1559) rfl rfl rfl (by decide +kernel) ⟨(Nat.le_of_ble_eq_true rfl), (Nat.le_of_ble_eq_true rfl)⟩) ⟨cPre.blind, t_recv hw (ci := 12) k_a0 rfl rfl, cPre.use hw.2.1 hw.1 hw.2.2.1 hE⟩ rfl rfl hl.1 rfl (lv_room (Nat.le_of_ble_eq_true rfl)) dX12_passes_17 ⟨(Nat.le_of_ble_eq_true rfl), (Nat.le_of_ble_eq_true rfl)⟩) hw hA (fun _ _ h => h.2.2.1) (fun v17 w_12 H locs hp hw => ?_)
      obtain ⟨l_v17, h_v17, _, hm⟩ := hp
      have hM := hM.trans hm (by decide) (by decide)
      have f_a0_X12_20 := hm.1 _ _ _ _ f_a0_X12_20 (by decide)
      have f_f0_M_said_10 := hm.elt k_f0 (by decide) f_f0_M_said_10
      have f_f0_M_said_5 := hm.elt k_f0 (by decide) f_f0_M_said_5
      refine lv_if_ne (tgt := 75) hx hb dX12_passes_20 (by decide) (fun c_20 => ?_) (fun c_20 => ?_)
      · simp only [fa_lt, fa_le, fa_eq, li_0] at c_20
        exact J75 _ _ _ w_12 hw hM f_a0_X12_20 f_f0_M_said_10 f_f0_M_said_5 (lv_sub hl [0, 1] rfl)
      · simp only [fa_lt, fa_le, fa_eq, li_0] at c_20
        refine lv_aload_n hx hb dX12_passes_23 rfl (lv_at hl 0 rfl) ?_
        refine t_getk (ci := 12) (C := RX12) (T := TX12) (N := 38) hx hb hts iX12 hown hw rfl 20 (by decide) (hts _ tw_1145) (fun _ h9 => h9) dX12_passes_24 f_a0_X12_20 ?_
        refine lv_bipush (v := 34) hx hb dX12_passes_27 (by decide) ?_
        refine lv_iload_n hx hb dX12_passes_29 rfl (lv_at hl 1 rfl) ?_
        refine lv_iadd hx hb dX12_passes_30 ?_
        refine lv_topi (fun v30 e_v30 => ?_)
        have e_v30 : v30.toInt = 34 + p6_l1.toInt := ad_i e_v30 li_34 rfl (by omega) (by omega)
        refine lv_aload_n hx hb dX12_passes_31 rfl (lv_at hl 0 rfl) ?_
        refine t_getk (ci := 12) (C := RX12) (T := TX12) (N := 38) hx hb hts iX12 hown hw rfl 20 (by decide) (hts _ tw_1145) (fun _ h9 => h9) dX12_passes_32 f_a0_X12_20 ?_
        refine lv_bipush (v := 34) hx hb dX12_passes_35 (by decide) ?_
        refine lv_iload_n hx hb dX12_passes_37 rfl (lv_at hl 1 rfl) ?_
        refine lv_iadd hx hb dX12_passes_38 ?_
        refine lv_topi (fun v38 e_v38 => ?_)
        have e_v38 : v38.toInt = 34 + p6_l1.toInt := ad_i e_v38 li_34 rfl (by omega) (by omega)
        refine t_iald hx hb hw k_f0 rfl rfl (by omega) (show v38.toInt < 306 by omega) dX12_passes_39 (fun v39 r_v39 s_v39 q_v39 => ?_)
        have l_v39 := i32_lo v39
        have h_v39 := i32_hi v39
        refine lv_aload_n hx hb dX12_passes_40 rfl (lv_at hl 0 rfl) ?_
        refine t_getk (ci := 12) (C := RX12) (T := TX12) (N := 38) hx hb hts iX12 hown hw rfl 20 (by decide) (hts _ tw_1145) (fun _ h9 => h9) dX12_passes_41 f_a0_X12_20 ?_
        refine lv_bipush (v := 114) hx hb dX12_passes_44 (by decide) ?_
        refine lv_iconst (v := 2) hx hb dX12_passes_46 (by decide) ?_
        refine lv_iload_n hx hb dX12_passes_47 rfl (lv_at hl 1 rfl) ?_
        refine lv_imul hx hb dX12_passes_48 ?_
        refine lv_topi (fun v48 e_v48 => ?_)
        have e_v48 : v48.toInt = 2 * p6_l1.toInt := ml_i e_v48 li_2 rfl (by omega) (by omega)
        refine lv_iadd hx hb dX12_passes_49 ?_
        refine lv_topi (fun v49 e_v49 => ?_)
        have e_v49 : v49.toInt = 114 + v48.toInt := ad_i e_v49 li_114 rfl (by omega) (by omega)
        refine lv_iconst (v := 1) hx hb dX12_passes_50 (by decide) ?_
        refine lv_iadd hx hb dX12_passes_51 ?_
        refine lv_topi (fun v51 e_v51 => ?_)
        have e_v51 : v51.toInt = v49.toInt + 1 := ad_i e_v51 rfl li_1 (by omega) (by omega)
        refine t_iald hx hb hw k_f0 rfl rfl (by omega) (show v51.toInt < 306 by omega) dX12_passes_52 (fun v52 r_v52 s_v52 q_v52 => ?_)
        have l_v52 := i32_lo v52
        have h_v52 := i32_hi v52
        refine lv_iadd hx hb dX12_passes_53 ?_
        refine lv_topi (fun v53 e_v53 => ?_)
        have l_v53 := i32_lo v53
        have h_v53 := i32_hi v53
        refine lv_aload_n hx hb dX12_passes_54 rfl (lv_at hl 0 rfl) ?_
        refine t_getk (ci := 12) (C := RX12) (T := TX12) (N := 38) hx hb hts iX12 hown hw rfl 20 (by decide) (hts _ tw_1145) (fun _ h9 => h9) dX12_passes_55 f_a0_X12_20 ?_
        refine lv_bipush (v := 114) hx hb dX12_passes_58 (by decide) ?_
        refine lv_iconst (v := 2) hx hb dX12_passes_60 (by decide) ?_
        refine lv_iload_n hx hb dX12_passes_61 rfl (lv_at hl 1 rfl) ?_
        refine lv_imul hx hb dX12_passes_62 ?_
        refine lv_topi (fun v62 e_v62 => ?_)
        have e_v62 : v62.toInt = 2 * p6_l1.toInt := ml_i e_v62 li_2 rfl (by omega) (by omega)
        refine lv_iadd hx hb dX12_passes_63 ?_
        refine lv_topi (fun v63 e_v63 => ?_)
        have e_v63 : v63.toInt = 114 + v62.toInt := ad_i e_v63 li_114 rfl (by omega) (by omega)
        refine t_iald hx hb hw k_f0 rfl rfl (by omega) (show v63.toInt < 306 by omega) dX12_passes_64 (fun v64 r_v64 s_v64 q_v64 => ?_)
        have l_v64 := i32_lo v64
        have h_v64 := i32_hi v64
        refine t_calli (va_runS (As := [.int v53, .int v64]) (rest := [.int v30, .ref f0]) ⟨hx, hb, hml, hown, hts⟩ (t_X12_atMost l dC dI tys κ B w_12 hw.2.2.2.2 v53 v64 H.size) (va_cwS 2 hts (gUS tw_1560 tw_1561 tw_13 tw_1562) rfl rfl rfl (by decide +kernel) ⟨(Nat.le_of_ble_eq_true rfl), (Nat.le_of_ble_eq_true rfl)⟩) ⟨cPre.blind, cPre.use hw.2.1 hw.1 hw.2.2.1 hE⟩ rfl rfl hl.1 rfl (lv_room (Nat.le_of_ble_eq_true rfl)) dX12_passes_65 ⟨(Nat.le_of_ble_eq_true rfl), (Nat.le_of_ble_eq_true rfl)⟩) hw hA (fun _ _ h => h.1) (fun v65 w_13 H locs hp hw => ?_)
        obtain ⟨_, hm⟩ := hp
        have l_v65 := i32_lo v65
        have h_v65 := i32_hi v65
        have hM := hM.trans hm (by decide) (by decide)
        have f_a0_X12_20 := hm.1 _ _ _ _ f_a0_X12_20 (by decide)
        have f_f0_M_said_10 := hm.elt k_f0 (by decide) f_f0_M_said_10
        have f_f0_M_said_5 := hm.elt k_f0 (by decide) f_f0_M_said_5
        refine t_iast hx hb hw k_f0 rfl rfl (by omega) (show v30.toInt < 306 by omega) (by rw [fr_63 (by omega) (by omega)]; exact i32_lo _) (by rw [fr_63 (by omega) (by omega)]; exact i32_hi _) dX12_passes_68 (fun w_14 H locs hw u => ?_)
        have hM := hM.up3 u k_f0 (by decide)
        have f_a0_X12_20 := u.1 _ _ _ _ f_a0_X12_20
        have f_f0_M_said_10 := u.2.2.1 _ _ _ f_f0_M_said_10 (Or.inr (by rw [show (10 : Int32).toInt.toNat = 10 by decide]; omega))
        have f_f0_M_said_5 := u.2.2.1 _ _ _ f_f0_M_said_5 (Or.inr (by rw [show (5 : Int32).toInt.toNat = 5 by decide]; omega))
        obtain ⟨v69, e_v69⟩ : ∃ y : Int32, y = p6_l1 + 1 := ⟨_, rfl⟩
        refine lv_iinc (v := v69) (lv' := [(1, .int v69), (0, .ref a0)]) hx hb dX12_passes_69 hl (k := 1) rfl e_v69.symm (by decide) rfl (fun ls hl => ?_)
        have e_v69 : v69.toInt = p6_l1.toInt + 1 := ad_i e_v69 rfl li_1 (by omega) (by omega)
        refine lv_goto (tgt := 6) hx hb dX12_passes_72 (by decide) ?_
        exact ih_6 _ _ _ _ (by omega) ⟨w_14, v69, hw, hM, (by omega), (by omega), f_a0_X12_20, f_f0_M_said_10, (lv_sub hl [1, 0] rfl), rfl⟩
  exact J6 _ _ _ _ ⟨w_1, 0, hw, hM, (by decide), (by decide), f_a0_X12_20, f_f0_M_said_10, (lv_sub hl [1, 0] rfl), rfl⟩
set_option maxHeartbeats 4000000 in
set_option maxRecDepth 100000 in
theorem t_X12_ahead (l : Launch) (dC : Nat → ClassId) (dI : Nat → Nat → Nat) (tys : List (ClassId × FieldType)) (κ : tK) (B : Nat) (ws : va_W) (hT : Ty κ tys B ws) (a0 : Nat) (k_a0 : κ a0 = some 12) (a1 : Int32) (a2 : Int32) (a3 : Int32) (f0 : Nat) (k_f0 : κ f0 = some 63) (f_a0_X12_20 : fld ws a0 12 20 (.ref f0)) (f1 : Int32) (l_f1 : 0 ≤ f1.toInt) (h_f1 : f1.toInt ≤ 999) (f_f0_M_said_10 : elt ws f0 (10 : Int32).toInt.toNat f1) (hRT : RT κ ws a0) (sz : Nat) : Met l yX12_ahead (ws_u yX12_ahead cX12_ahead 5 (some .int)) ({ frames := 9, cells := 0, slots := 0, locals := 210 }) (va_Pc [.ref a0, .int a1, .int a2, .int a3] (cPre (dC, dI) tys ws sz)) (va_Qi (fun (r : Int32) (w : va_W) => Ty κ tys B w ∧ Sm [(12, 18), (12, 24)] [61, 62, 63, 64, 66] κ ws w ∧ (∃ (xd : Int32), 0 ≤ xd.toInt ∧ xd.toInt ≤ 999 ∧ elt w f0 (10 : Int32).toInt.toNat xd)) (fun w t => cPost (dC, dI) tys w (va_A ws sz) t) (va_A ws sz)) 0 0 (va_A ws sz) := by
  refine Met.ofW (cc := cX12_ahead) (maxL := 5) (ret := (some .int)) (by decide) rfl ?_
  intro p e s m args below meth c s₁ B0 hml hv
  obtain ⟨rfl, hsz, hP, hK, hD0, hE⟩ := hv
  have hx := B0.exec
  have hb := B0.bytes
  have hr := B0.returns
  have hts0 := atoms_spec (ws := ws_u yX12_ahead cX12_ahead 5 (some .int)) B0.pre
  have hts : ∀ w ∈ gT, w.before _ s = true := fun w h => hts0 w (List.mem_cons_of_mem _ h)
  have hown : s.vm.findClass RX12 = some m.cls := findClass_of_methodNamed B0.named
  have hlocks := B0.notSynchronized
  subst hsz
  have hD := hD0.self (sz := s.heap.size)
  generalize hAe : va_A ws s.heap.size = A at hD ⊢
  have hA : ∀ q : Nat, s.heap.size ≤ q → A q := fun q h => by rw [← hAe]; exact Or.inr h
  have hw : tW (dC, dI) tys κ B A s ws s.heap [] := ⟨hK, hP, hD, va_S.rf, hT⟩
  have hM : Sm [(12, 18), (12, 24)] [61, 62, 63, 64, 66] κ ws ws := Sm.rf
  clear hP hK hD hD0 hts0
  have l_a1 := i32_lo a1
  have h_a1 := i32_hi a1
  have l_a2 := i32_lo a2
  have h_a2 := i32_hi a2
  have l_a3 := i32_lo a3
  have h_a3 := i32_hi a3
  have hl := lv_entry ([.ref a0, .int a1, .int a2, .int a3]) (n := 5) (Nat.le_of_ble_eq_true rfl)
  rw [lg_entry_eq]
  generalize (lg_sl ([.ref a0, .int a1, .int a2, .int a3]) ++ List.replicate (5 - (lg_sl ([.ref a0, .int a1, .int a2, .int a3])).length) Slot.unset).toArray = ls at hl ⊢
  have hl : lv_has ls 5 [(0, .ref a0), (1, .int a1), (2, .int a2), (3, .int a3)] := hl
  refine t_start (fun QQ hQ => ?_)
  refine lv_aload_n hx hb dX12_ahead_0 rfl (lv_at hl 0 rfl) ?_
  refine t_calli (va_runV (As := []) (rest := []) ⟨hx, hb, hml, hown, hts⟩ (t_X12_isChoir l dC dI tys κ B ws hw.2.2.2.2 a0 k_a0 s.heap.size) (cwV 0 hts (gUV tw_1489 tw_1491 ts_5_12 tw_13 tw_1492) rfl rfl rfl (by decide +kernel) ⟨(Nat.le_of_ble_eq_true rfl), (Nat.le_of_ble_eq_true rfl)⟩) ⟨cPre.blind, t_recv hw (ci := 12) k_a0 rfl rfl, cPre.use hw.2.1 hw.1 hw.2.2.1 hE⟩ rfl rfl hl.1 rfl (lv_room (Nat.le_of_ble_eq_true rfl)) dX12_ahead_1 ⟨(Nat.le_of_ble_eq_true rfl), (Nat.le_of_ble_eq_true rfl)⟩) hw hA (fun _ _ h => h.2.2.1) (fun v1 w_1 H locs hp hw => ?_)
  obtain ⟨l_v1, h_v1, _, hm⟩ := hp
  have hM := hM.trans hm (by decide) (by decide)
  have f_a0_X12_20 := hm.1 _ _ _ _ f_a0_X12_20 (by decide)
  have f_f0_M_said_10 := hm.elt k_f0 (by decide) f_f0_M_said_10
  refine lv_if_eq (tgt := 57) hx hb dX12_ahead_4 (by decide) (fun c_4 => ?_) (fun c_4 => ?_)
  · simp only [fa_lt, fa_le, fa_eq, li_0] at c_4
    refine lv_bipush (v := (-2)) hx hb dX12_ahead_57 (by decide) ?_
    rw [hQ]
    refine W.widen (k := 0) (n := 0) (Nat.le_refl _) (Nat.le_refl _) ?_
    exact W.iret (v := (-2)) hx hb hr (fun t ht hW => ⟨⟨(-2), w_1, rfl, ⟨hw.2.2.2.2, hM, ⟨f1, (by omega), (by omega), f_f0_M_said_10⟩⟩, by rw [ht]; exact hw.2.1, va_K.moved hW.alike hw.1, hw.2.2.1⟩, hw.2.2.2.1.F ht⟩) hw.2.2.2.1.2.2 dX12_ahead_59
  · simp only [fa_lt, fa_le, fa_eq, li_0] at c_4
    refine lv_iload_n hx hb dX12_ahead_7 rfl (lv_at hl 2 rfl) ?_
    refine lv_i2l hx hb dX12_ahead_8 rfl ?_
    refine lv_topl (fun v8 e_v8 => ?_)
    have t_v8 : v8.toInt = a2.toInt := by rw [e_v8, Int32.toInt_toInt64]
    refine lv_lconst (v := 0) hx hb dX12_ahead_9 (by decide) ?_
    obtain ⟨v9, e_v9⟩ : ∃ y : Int64, y = 0 := ⟨_, rfl⟩
    refine W.eq (g2 := F0 m 10 ls [.long v9, .long v8]) (by rw [e_v9]) ?_
    have t_v9 : v9.toInt = 0 := by rw [e_v9]; decide
    refine lv_ldc2 (v := 60) hx hb hown (hts _ tw_1596) dX12_ahead_10 ?_
    refine lv_topl (fun v10 e_v10 => ?_)
    have t_v10 : v10.toInt = 60 := by rw [e_v10]; decide
    refine t_calli (va_runS (As := [.long v8, .long v9, .long v10]) (rest := []) ⟨hx, hb, hml, hown, hts⟩ (t_X12_in l dC dI tys κ B w_1 hw.2.2.2.2 v8 v9 v10 H.size) (va_cwS 3 hts (gUS tw_1316 tw_1317 tw_13 tw_1318) rfl rfl rfl (by decide +kernel) ⟨(Nat.le_of_ble_eq_true rfl), (Nat.le_of_ble_eq_true rfl)⟩) ⟨cPre.blind, cPre.use hw.2.1 hw.1 hw.2.2.1 hE⟩ rfl rfl hl.1 rfl (lv_room (Nat.le_of_ble_eq_true rfl)) dX12_ahead_13 ⟨(Nat.le_of_ble_eq_true rfl), (Nat.le_of_ble_eq_true rfl)⟩) hw hA (fun _ _ h => h.2.2.1) (fun v13 w_2 H locs hp hw => ?_)
    obtain ⟨l_v13, h_v13, _, hm, x_v13_0⟩ := hp
    have hM := hM.trans hm (by decide) (by decide)
    have f_a0_X12_20 := hm.1 _ _ _ _ f_a0_X12_20 (by decide)
    have f_f0_M_said_10 := hm.elt k_f0 (by decide) f_f0_M_said_10
    refine lv_if_eq (tgt := 57) hx hb dX12_ahead_16 (by decide) (fun c_16 => ?_) (fun c_16 => ?_)
    · simp only [fa_lt, fa_le, fa_eq, li_0] at c_16
      refine lv_bipush (v := (-2)) hx hb dX12_ahead_57 (by decide) ?_
      rw [hQ]
      refine W.widen (k := 0) (n := 0) (Nat.le_refl _) (Nat.le_refl _) ?_
      exact W.iret (v := (-2)) hx hb hr (fun t ht hW => ⟨⟨(-2), w_2, rfl, ⟨hw.2.2.2.2, hM, ⟨f1, (by omega), (by omega), f_f0_M_said_10⟩⟩, by rw [ht]; exact hw.2.1, va_K.moved hW.alike hw.1, hw.2.2.1⟩, hw.2.2.2.1.F ht⟩) hw.2.2.2.1.2.2 dX12_ahead_59
    · simp only [fa_lt, fa_le, fa_eq, li_0] at c_16
      refine lv_iload_n hx hb dX12_ahead_19 rfl (lv_at hl 3 rfl) ?_
      refine lv_i2l hx hb dX12_ahead_20 rfl ?_
      refine lv_topl (fun v20 e_v20 => ?_)
      have t_v20 : v20.toInt = a3.toInt := by rw [e_v20, Int32.toInt_toInt64]
      refine lv_lconst (v := 0) hx hb dX12_ahead_21 (by decide) ?_
      obtain ⟨v21, e_v21⟩ : ∃ y : Int64, y = 0 := ⟨_, rfl⟩
      refine W.eq (g2 := F0 m 22 ls [.long v21, .long v20]) (by rw [e_v21]) ?_
      have t_v21 : v21.toInt = 0 := by rw [e_v21]; decide
      refine lv_ldc2 (v := 2) hx hb hown (hts _ tw_1597) dX12_ahead_22 ?_
      refine lv_topl (fun v22 e_v22 => ?_)
      have t_v22 : v22.toInt = 2 := by rw [e_v22]; decide
      refine t_calli (va_runS (As := [.long v20, .long v21, .long v22]) (rest := []) ⟨hx, hb, hml, hown, hts⟩ (t_X12_in l dC dI tys κ B w_2 hw.2.2.2.2 v20 v21 v22 H.size) (va_cwS 3 hts (gUS tw_1316 tw_1317 tw_13 tw_1318) rfl rfl rfl (by decide +kernel) ⟨(Nat.le_of_ble_eq_true rfl), (Nat.le_of_ble_eq_true rfl)⟩) ⟨cPre.blind, cPre.use hw.2.1 hw.1 hw.2.2.1 hE⟩ rfl rfl hl.1 rfl (lv_room (Nat.le_of_ble_eq_true rfl)) dX12_ahead_25 ⟨(Nat.le_of_ble_eq_true rfl), (Nat.le_of_ble_eq_true rfl)⟩) hw hA (fun _ _ h => h.2.2.1) (fun v25 w_3 H locs hp hw => ?_)
      obtain ⟨l_v25, h_v25, _, hm, x_v25_0⟩ := hp
      have hM := hM.trans hm (by decide) (by decide)
      have f_a0_X12_20 := hm.1 _ _ _ _ f_a0_X12_20 (by decide)
      have f_f0_M_said_10 := hm.elt k_f0 (by decide) f_f0_M_said_10
      refine lv_if_eq (tgt := 57) hx hb dX12_ahead_28 (by decide) (fun c_28 => ?_) (fun c_28 => ?_)
      · simp only [fa_lt, fa_le, fa_eq, li_0] at c_28
        refine lv_bipush (v := (-2)) hx hb dX12_ahead_57 (by decide) ?_
        rw [hQ]
        refine W.widen (k := 0) (n := 0) (Nat.le_refl _) (Nat.le_refl _) ?_
        exact W.iret (v := (-2)) hx hb hr (fun t ht hW => ⟨⟨(-2), w_3, rfl, ⟨hw.2.2.2.2, hM, ⟨f1, (by omega), (by omega), f_f0_M_said_10⟩⟩, by rw [ht]; exact hw.2.1, va_K.moved hW.alike hw.1, hw.2.2.1⟩, hw.2.2.2.1.F ht⟩) hw.2.2.2.1.2.2 dX12_ahead_59
      · simp only [fa_lt, fa_le, fa_eq, li_0] at c_28
        refine lv_iload_n hx hb dX12_ahead_31 rfl (lv_at hl 3 rfl) ?_
        refine lv_iconst (v := 1) hx hb dX12_ahead_32 (by decide) ?_
        refine lv_icmp_ne (tgt := 44) hx hb dX12_ahead_33 (by decide) (fun c_33 => ?_) (fun c_33 => ?_)
        · simp only [fa_lt, fa_le, fa_eq, li_1] at c_33
          refine lv_iload_n hx hb dX12_ahead_44 rfl (lv_at hl 3 rfl) ?_
          refine lv_iconst (v := 2) hx hb dX12_ahead_45 (by decide) ?_
          refine lv_icmp_ne (tgt := 60) hx hb dX12_ahead_46 (by decide) (fun c_46 => ?_) (fun c_46 => ?_)
          · simp only [fa_lt, fa_le, fa_eq, li_2] at c_46
            refine lv_aload_n hx hb dX12_ahead_60 rfl (lv_at hl 0 rfl) ?_
            refine t_callv (va_runV (As := []) (rest := []) ⟨hx, hb, hml, hown, hts⟩ (t_X12_keeps l dC dI tys κ B w_3 hw.2.2.2.2 a0 k_a0 f0 k_f0 f_a0_X12_20 f1 (by omega) (by omega) f_f0_M_said_10 H.size) (cwV 0 hts (gUV tw_1598 tw_1600 ts_7_0 tw_13 tw_1601) rfl rfl rfl (by decide +kernel) ⟨(Nat.le_of_ble_eq_true rfl), (Nat.le_of_ble_eq_true rfl)⟩) ⟨cPre.blind, t_recv hw (ci := 12) k_a0 rfl rfl, cPre.use hw.2.1 hw.1 hw.2.2.1 hE⟩ rfl rfl hl.1 rfl (lv_room (Nat.le_of_ble_eq_true rfl)) dX12_ahead_61 ⟨(Nat.le_of_ble_eq_true rfl), (Nat.le_of_ble_eq_true rfl)⟩) hw hA (fun _ h => h.1) (fun w_4 H locs hp hw => ?_)
            obtain ⟨_, hm⟩ := hp
            have hM := hM.trans hm (by decide) (by decide)
            have f_a0_X12_20 := hm.1 _ _ _ _ f_a0_X12_20 (by decide)
            have f_f0_M_said_10 := hm.elt k_f0 (by decide) f_f0_M_said_10
            refine lv_iconst (v := 0) hx hb dX12_ahead_64 (by decide) ?_
            refine lv_istore (lv' := [(4, .int 0), (0, .ref a0), (1, .int a1), (2, .int a2), (3, .int a3)]) hx hb dX12_ahead_65 hl (by decide) rfl (fun ls hl => ?_)
            have J67 : ∀ (n : Nat) (H : Heap) (locs : List Loc) (ls : Array Slot), (∃ (w67 : va_W) (p67_l4 : Int32) (p67_m_f0_M_said_10 : Int32), tW (dC, dI) tys κ B A s w67 H locs ∧ Sm [(12, 18), (12, 24)] [61, 62, 63, 64, 66] κ ws w67 ∧ 0 ≤ p67_l4.toInt ∧ p67_l4.toInt ≤ 60 ∧ 0 ≤ p67_m_f0_M_said_10.toInt ∧ p67_m_f0_M_said_10.toInt ≤ 1999 ∧ fld w67 a0 12 20 (.ref f0) ∧ elt w67 f0 (10 : Int32).toInt.toNat p67_m_f0_M_said_10 ∧ p67_m_f0_M_said_10.toInt ≤ 999 + p67_l4.toInt ∧ lv_has ls 5 [(0, .ref a0), (1, .int a1), (2, .int a2), (3, .int a3), (4, .int p67_l4)] ∧ (60 - p67_l4.toInt).toNat = n) → W p l e (headSpec (ws_u yX12_ahead cX12_ahead 5 (some .int)) ({ frames := 9, cells := 0, slots := 0, locals := 210 })).room s m ([.ref a0, .int a1, .int a2, .int a3] : List Value).toArray below meth c H locs 0 0 QQ (F0 m 67 ls []) := by
              refine loopT _ ?_
              intro n_67 H locs ls hI ih_67
              obtain ⟨w67, p67_l4, p67_m_f0_M_said_10, hw, hM, l_p67_l4, h_p67_l4, l_p67_m_f0_M_said_10, h_p67_m_f0_M_said_10, f_a0_X12_20, f_f0_M_said_10, li_67_0, hl, hn_67⟩ := hI
              refine lv_iload hx hb dX12_ahead_67 (lv_at hl 4 rfl) ?_
              refine lv_iload_n hx hb dX12_ahead_69 rfl (lv_at hl 2 rfl) ?_
              refine lv_icmp_ge (tgt := 83) hx hb dX12_ahead_70 (by decide) (fun c_70 => ?_) (fun c_70 => ?_)
              · simp only [fa_lt, fa_le, fa_eq] at c_70
                refine lv_iload_n hx hb dX12_ahead_83 rfl (lv_at hl 3 rfl) ?_
                have J120 : ∀ (H : Heap) (locs : List Loc) (ls : Array Slot) (w120 : va_W) (p120_s0 : Int32), tW (dC, dI) tys κ B A s w120 H locs → Sm [(12, 18), (12, 24)] [61, 62, 63, 64, 66] κ ws w120 → (-2147483648) ≤ p120_s0.toInt → p120_s0.toInt ≤ 2147483647 → fld w120 a0 12 20 (.ref f0) → elt w120 f0 (10 : Int32).toInt.toNat p67_m_f0_M_said_10 → lv_has ls 5 [(0, .ref a0), (1, .int a1), (2, .int a2), (3, .int a3), (4, .int p67_l4)] → W p l e (headSpec (ws_u yX12_ahead cX12_ahead 5 (some .int)) ({ frames := 9, cells := 0, slots := 0, locals := 210 })).room s m ([.ref a0, .int a1, .int a2, .int a3] : List Value).toArray below meth c H locs 0 0 QQ (F0 m 120 ls [.int p120_s0]) := by
                  intro H locs ls w120 p120_s0 hw hM l_p120_s0 h_p120_s0 f_a0_X12_20 f_f0_M_said_10 hl
                  refine lv_istore (lv' := [(4, .int p120_s0), (0, .ref a0), (1, .int a1), (2, .int a2), (3, .int a3)]) hx hb dX12_ahead_120 hl (by decide) rfl (fun ls hl => ?_)
                  refine lv_aload_n hx hb dX12_ahead_122 rfl (lv_at hl 1 rfl) ?_
                  refine t_callv (va_runV (As := []) (rest := []) ⟨hx, hb, hml, hown, hts⟩ (t_X12_laysBack l dC dI tys κ B w120 hw.2.2.2.2 a0 k_a0 f0 k_f0 f_a0_X12_20 H.size) (cwV 0 hts (gUV tw_1602 tw_1604 ts_7_1 tw_13 tw_1605) rfl rfl rfl (by decide +kernel) ⟨(Nat.le_of_ble_eq_true rfl), (Nat.le_of_ble_eq_true rfl)⟩) ⟨cPre.blind, t_recv hw (ci := 12) k_a0 rfl rfl, cPre.use hw.2.1 hw.1 hw.2.2.1 hE⟩ rfl rfl hl.1 rfl (lv_room (Nat.le_of_ble_eq_true rfl)) dX12_ahead_123 ⟨(Nat.le_of_ble_eq_true rfl), (Nat.le_of_ble_eq_true rfl)⟩) hw hA (fun _ h => h.1) (fun w_5 H locs hp hw => ?_)
                  obtain ⟨_, hm, ⟨v123d, l_v123d, h_v123d, f_f0_M_said_10⟩⟩ := hp
                  have hM := hM.trans hm (by decide) (by decide)
                  have f_a0_X12_20 := hm.1 _ _ _ _ f_a0_X12_20 (by decide)
                  refine lv_iload hx hb dX12_ahead_126 (lv_at hl 0 rfl) ?_
                  rw [hQ]
                  refine W.widen (k := 0) (n := 0) (Nat.le_refl _) (Nat.le_refl _) ?_
                  exact W.iret (v := p120_s0) hx hb hr (fun t ht hW => ⟨⟨p120_s0, w_5, rfl, ⟨hw.2.2.2.2, hM, ⟨v123d, (by omega), (by omega), f_f0_M_said_10⟩⟩, by rw [ht]; exact hw.2.1, va_K.moved hW.alike hw.1, hw.2.2.1⟩, hw.2.2.2.1.F ht⟩) hw.2.2.2.1.2.2 dX12_ahead_128
                refine lv_if_ne (tgt := 97) hx hb dX12_ahead_84 (by decide) (fun c_84 => ?_) (fun c_84 => ?_)
                · simp only [fa_lt, fa_le, fa_eq, li_0] at c_84
                  refine lv_iload_n hx hb dX12_ahead_97 rfl (lv_at hl 3 rfl) ?_
                  refine lv_iconst (v := 1) hx hb dX12_ahead_98 (by decide) ?_
                  refine lv_icmp_ne (tgt := 111) hx hb dX12_ahead_99 (by decide) (fun c_99 => by exfalso; simp only [fa_lt, fa_le, fa_eq, li_1] at c_99; omega) (fun c_99 => ?_)
                  simp only [fa_lt, fa_le, fa_eq, li_1] at c_99
                  refine lv_aload_n hx hb dX12_ahead_102 rfl (lv_at hl 0 rfl) ?_
                  refine lv_iload_n hx hb dX12_ahead_103 rfl (lv_at hl 1 rfl) ?_
                  refine lv_iconst (v := 0) hx hb dX12_ahead_104 (by decide) ?_
                  refine t_calli (va_runV (As := [.int a1, .int 0]) (rest := []) ⟨hx, hb, hml, hown, hts⟩ (t_X12_boyOf l dC dI tys κ B w67 hw.2.2.2.2 a0 k_a0 a1 (by omega) (by omega) 0 (by decide) (by decide) H.size) (cwV 2 hts (gUV tw_1453 tw_1455 ts_5_8 tw_13 tw_1456) rfl rfl rfl (by decide +kernel) ⟨(Nat.le_of_ble_eq_true rfl), (Nat.le_of_ble_eq_true rfl)⟩) ⟨cPre.blind, t_recv hw (ci := 12) k_a0 rfl rfl, cPre.use hw.2.1 hw.1 hw.2.2.1 hE⟩ rfl rfl hl.1 rfl (lv_room (Nat.le_of_ble_eq_true rfl)) dX12_ahead_105 ⟨(Nat.le_of_ble_eq_true rfl), (Nat.le_of_ble_eq_true rfl)⟩) hw hA (fun _ _ h => h.1) (fun v105 w_6 H locs hp hw => ?_)
                  obtain ⟨_, hm⟩ := hp
                  have l_v105 := i32_lo v105
                  have h_v105 := i32_hi v105
                  have hM := hM.trans hm (by decide) (by decide)
                  have f_a0_X12_20 := hm.1 _ _ _ _ f_a0_X12_20 (by decide)
                  have f_f0_M_said_10 := hm.elt k_f0 (by decide) f_f0_M_said_10
                  refine lv_goto (tgt := 120) hx hb dX12_ahead_108 (by decide) ?_
                  exact J120 _ _ _ w_6 v105 hw hM (by omega) (by omega) f_a0_X12_20 f_f0_M_said_10 (lv_sub hl [0, 1, 2, 3, 4] rfl)
                · simp only [fa_lt, fa_le, fa_eq, li_0] at c_84
                  refine lv_aload_n hx hb dX12_ahead_87 rfl (lv_at hl 0 rfl) ?_
                  refine t_getk (ci := 12) (C := RX12) (T := TX12) (N := 38) hx hb hts iX12 hown hw rfl 20 (by decide) (hts _ tw_1145) (fun _ h9 => h9) dX12_ahead_88 f_a0_X12_20 ?_
                  refine lv_bipush (v := 11) hx hb dX12_ahead_91 (by decide) ?_
                  refine t_iald hx hb hw k_f0 rfl rfl (by decide) (by decide) dX12_ahead_93 (fun v93 r_v93 s_v93 f_f0_M_said_11 => ?_)
                  have l_v93 : (-1) ≤ v93.toInt := by rw [iv_63_11] at r_v93; exact r_v93
                  have h_v93 : v93.toInt ≤ 5 := by rw [iv_63_11] at s_v93; exact s_v93
                  refine lv_goto (tgt := 120) hx hb dX12_ahead_94 (by decide) ?_
                  exact J120 _ _ _ w67 v93 hw hM (by omega) (by omega) f_a0_X12_20 f_f0_M_said_10 (lv_sub hl [0, 1, 2, 3, 4] rfl)
              · simp only [fa_lt, fa_le, fa_eq] at c_70
                refine lv_aload_n hx hb dX12_ahead_73 rfl (lv_at hl 0 rfl) ?_
                refine t_callv (va_runV (As := []) (rest := []) ⟨hx, hb, hml, hown, hts⟩ (t_X12_passes l dC dI tys κ B w67 hw.2.2.2.2 a0 k_a0 f0 k_f0 f_a0_X12_20 p67_m_f0_M_said_10 (by omega) (by omega) f_f0_M_said_10 (hRT.sm hM (by decide) (by decide)) H.size) (cwV 0 hts (gUV tw_1497 tw_1499 ts_5_14 tw_13 tw_1500) rfl rfl rfl (by decide +kernel) ⟨(Nat.le_of_ble_eq_true rfl), (Nat.le_of_ble_eq_true rfl)⟩) ⟨cPre.blind, t_recv hw (ci := 12) k_a0 rfl rfl, cPre.use hw.2.1 hw.1 hw.2.2.1 hE⟩ rfl rfl hl.1 rfl (lv_room (Nat.le_of_ble_eq_true rfl)) dX12_ahead_74 ⟨(Nat.le_of_ble_eq_true rfl), (Nat.le_of_ble_eq_true rfl)⟩) hw hA (fun _ h => h.1) (fun w_7 H locs hp hw => ?_)
                obtain ⟨_, hm, ⟨v74d, l_v74d, h_v74d, f_f0_M_said_10, y_v74⟩⟩ := hp
                have hM := hM.trans hm (by decide) (by decide)
                have f_a0_X12_20 := hm.1 _ _ _ _ f_a0_X12_20 (by decide)
                obtain ⟨v77, e_v77⟩ : ∃ y : Int32, y = p67_l4 + 1 := ⟨_, rfl⟩
                refine lv_iinc (v := v77) (lv' := [(4, .int v77), (0, .ref a0), (1, .int a1), (2, .int a2), (3, .int a3)]) hx hb dX12_ahead_77 hl (k := 4) rfl e_v77.symm (by decide) rfl (fun ls hl => ?_)
                have e_v77 : v77.toInt = p67_l4.toInt + 1 := ad_i e_v77 rfl li_1 (by omega) (by omega)
                refine lv_goto (tgt := 67) hx hb dX12_ahead_80 (by decide) ?_
                exact ih_67 _ _ _ _ (by omega) ⟨w_7, v77, v74d, hw, hM, (by omega), (by omega), (by omega), (by omega), f_a0_X12_20, f_f0_M_said_10, (by omega), (lv_sub hl [1, 2, 3, 4, 0] rfl), rfl⟩
            exact J67 _ _ _ _ ⟨w_4, 0, f1, hw, hM, (by decide), (by decide), (by omega), (by omega), f_a0_X12_20, f_f0_M_said_10, (by have := li_0; omega), (lv_sub hl [1, 2, 3, 4, 0] rfl), rfl⟩
          · simp only [fa_lt, fa_le, fa_eq, li_2] at c_46
            refine lv_aload_n hx hb dX12_ahead_49 rfl (lv_at hl 0 rfl) ?_
            refine lv_iload_n hx hb dX12_ahead_50 rfl (lv_at hl 1 rfl) ?_
            refine t_calli (va_runV (As := [.int a1]) (rest := []) ⟨hx, hb, hml, hown, hts⟩ (t_X12_isFarm l dC dI tys κ B w_3 hw.2.2.2.2 a0 k_a0 a1 H.size) (cwV 1 hts (gUV tw_1477 tw_1479 ts_5_11 tw_13 tw_1480) rfl rfl rfl (by decide +kernel) ⟨(Nat.le_of_ble_eq_true rfl), (Nat.le_of_ble_eq_true rfl)⟩) ⟨cPre.blind, t_recv hw (ci := 12) k_a0 rfl rfl, cPre.use hw.2.1 hw.1 hw.2.2.1 hE⟩ rfl rfl hl.1 rfl (lv_room (Nat.le_of_ble_eq_true rfl)) dX12_ahead_51 ⟨(Nat.le_of_ble_eq_true rfl), (Nat.le_of_ble_eq_true rfl)⟩) hw hA (fun _ _ h => h.2.2.1) (fun v51 w_8 H locs hp hw => ?_)
            obtain ⟨l_v51, h_v51, _, hm, x_v51_0⟩ := hp
            have hM := hM.trans hm (by decide) (by decide)
            have f_a0_X12_20 := hm.1 _ _ _ _ f_a0_X12_20 (by decide)
            have f_f0_M_said_10 := hm.elt k_f0 (by decide) f_f0_M_said_10
            refine lv_if_ne (tgt := 60) hx hb dX12_ahead_54 (by decide) (fun c_54 => ?_) (fun c_54 => ?_)
            · simp only [fa_lt, fa_le, fa_eq, li_0] at c_54
              refine lv_aload_n hx hb dX12_ahead_60 rfl (lv_at hl 0 rfl) ?_
              refine t_callv (va_runV (As := []) (rest := []) ⟨hx, hb, hml, hown, hts⟩ (t_X12_keeps l dC dI tys κ B w_8 hw.2.2.2.2 a0 k_a0 f0 k_f0 f_a0_X12_20 f1 (by omega) (by omega) f_f0_M_said_10 H.size) (cwV 0 hts (gUV tw_1598 tw_1600 ts_7_0 tw_13 tw_1601) rfl rfl rfl (by decide +kernel) ⟨(Nat.le_of_ble_eq_true rfl), (Nat.le_of_ble_eq_true rfl)⟩) ⟨cPre.blind, t_recv hw (ci := 12) k_a0 rfl rfl, cPre.use hw.2.1 hw.1 hw.2.2.1 hE⟩ rfl rfl hl.1 rfl (lv_room (Nat.le_of_ble_eq_true rfl)) dX12_ahead_61 ⟨(Nat.le_of_ble_eq_true rfl), (Nat.le_of_ble_eq_true rfl)⟩) hw hA (fun _ h => h.1) (fun w_9 H locs hp hw => ?_)
              obtain ⟨_, hm⟩ := hp
              have hM := hM.trans hm (by decide) (by decide)
              have f_a0_X12_20 := hm.1 _ _ _ _ f_a0_X12_20 (by decide)
              have f_f0_M_said_10 := hm.elt k_f0 (by decide) f_f0_M_said_10
              refine lv_iconst (v := 0) hx hb dX12_ahead_64 (by decide) ?_
              refine lv_istore (lv' := [(4, .int 0), (0, .ref a0), (1, .int a1), (2, .int a2), (3, .int a3)]) hx hb dX12_ahead_65 hl (by decide) rfl (fun ls hl => ?_)
              have J67 : ∀ (n : Nat) (H : Heap) (locs : List Loc) (ls : Array Slot), (∃ (w67 : va_W) (p67_l4 : Int32) (p67_m_f0_M_said_10 : Int32), tW (dC, dI) tys κ B A s w67 H locs ∧ Sm [(12, 18), (12, 24)] [61, 62, 63, 64, 66] κ ws w67 ∧ 0 ≤ p67_l4.toInt ∧ p67_l4.toInt ≤ 60 ∧ 0 ≤ p67_m_f0_M_said_10.toInt ∧ p67_m_f0_M_said_10.toInt ≤ 1999 ∧ fld w67 a0 12 20 (.ref f0) ∧ elt w67 f0 (10 : Int32).toInt.toNat p67_m_f0_M_said_10 ∧ p67_m_f0_M_said_10.toInt ≤ 999 + p67_l4.toInt ∧ lv_has ls 5 [(0, .ref a0), (1, .int a1), (2, .int a2), (3, .int a3), (4, .int p67_l4)] ∧ (60 - p67_l4.toInt).toNat = n) → W p l e (headSpec (ws_u yX12_ahead cX12_ahead 5 (some .int)) ({ frames := 9, cells := 0, slots := 0, locals := 210 })).room s m ([.ref a0, .int a1, .int a2, .int a3] : List Value).toArray below meth c H locs 0 0 QQ (F0 m 67 ls []) := by
                refine loopT _ ?_
                intro n_67 H locs ls hI ih_67
                obtain ⟨w67, p67_l4, p67_m_f0_M_said_10, hw, hM, l_p67_l4, h_p67_l4, l_p67_m_f0_M_said_10, h_p67_m_f0_M_said_10, f_a0_X12_20, f_f0_M_said_10, li_67_0, hl, hn_67⟩ := hI
                refine lv_iload hx hb dX12_ahead_67 (lv_at hl 4 rfl) ?_
                refine lv_iload_n hx hb dX12_ahead_69 rfl (lv_at hl 2 rfl) ?_
                refine lv_icmp_ge (tgt := 83) hx hb dX12_ahead_70 (by decide) (fun c_70 => ?_) (fun c_70 => ?_)
                · simp only [fa_lt, fa_le, fa_eq] at c_70
                  refine lv_iload_n hx hb dX12_ahead_83 rfl (lv_at hl 3 rfl) ?_
                  have J120 : ∀ (H : Heap) (locs : List Loc) (ls : Array Slot) (w120 : va_W) (p120_s0 : Int32), tW (dC, dI) tys κ B A s w120 H locs → Sm [(12, 18), (12, 24)] [61, 62, 63, 64, 66] κ ws w120 → (-2147483648) ≤ p120_s0.toInt → p120_s0.toInt ≤ 2147483647 → fld w120 a0 12 20 (.ref f0) → elt w120 f0 (10 : Int32).toInt.toNat p67_m_f0_M_said_10 → lv_has ls 5 [(0, .ref a0), (1, .int a1), (2, .int a2), (3, .int a3), (4, .int p67_l4)] → W p l e (headSpec (ws_u yX12_ahead cX12_ahead 5 (some .int)) ({ frames := 9, cells := 0, slots := 0, locals := 210 })).room s m ([.ref a0, .int a1, .int a2, .int a3] : List Value).toArray below meth c H locs 0 0 QQ (F0 m 120 ls [.int p120_s0]) := by
                    intro H locs ls w120 p120_s0 hw hM l_p120_s0 h_p120_s0 f_a0_X12_20 f_f0_M_said_10 hl
                    refine lv_istore (lv' := [(4, .int p120_s0), (0, .ref a0), (1, .int a1), (2, .int a2), (3, .int a3)]) hx hb dX12_ahead_120 hl (by decide) rfl (fun ls hl => ?_)
                    refine lv_aload_n hx hb dX12_ahead_122 rfl (lv_at hl 1 rfl) ?_
                    refine t_callv (va_runV (As := []) (rest := []) ⟨hx, hb, hml, hown, hts⟩ (t_X12_laysBack l dC dI tys κ B w120 hw.2.2.2.2 a0 k_a0 f0 k_f0 f_a0_X12_20 H.size) (cwV 0 hts (gUV tw_1602 tw_1604 ts_7_1 tw_13 tw_1605) rfl rfl rfl (by decide +kernel) ⟨(Nat.le_of_ble_eq_true rfl), (Nat.le_of_ble_eq_true rfl)⟩) ⟨cPre.blind, t_recv hw (ci := 12) k_a0 rfl rfl, cPre.use hw.2.1 hw.1 hw.2.2.1 hE⟩ rfl rfl hl.1 rfl (lv_room (Nat.le_of_ble_eq_true rfl)) dX12_ahead_123 ⟨(Nat.le_of_ble_eq_true rfl), (Nat.le_of_ble_eq_true rfl)⟩) hw hA (fun _ h => h.1) (fun w_10 H locs hp hw => ?_)
                    obtain ⟨_, hm, ⟨v123d, l_v123d, h_v123d, f_f0_M_said_10⟩⟩ := hp
                    have hM := hM.trans hm (by decide) (by decide)
                    have f_a0_X12_20 := hm.1 _ _ _ _ f_a0_X12_20 (by decide)
                    refine lv_iload hx hb dX12_ahead_126 (lv_at hl 0 rfl) ?_
                    rw [hQ]
                    refine W.widen (k := 0) (n := 0) (Nat.le_refl _) (Nat.le_refl _) ?_
                    exact W.iret (v := p120_s0) hx hb hr (fun t ht hW => ⟨⟨p120_s0, w_10, rfl, ⟨hw.2.2.2.2, hM, ⟨v123d, (by omega), (by omega), f_f0_M_said_10⟩⟩, by rw [ht]; exact hw.2.1, va_K.moved hW.alike hw.1, hw.2.2.1⟩, hw.2.2.2.1.F ht⟩) hw.2.2.2.1.2.2 dX12_ahead_128
                  refine lv_if_ne (tgt := 97) hx hb dX12_ahead_84 (by decide) (fun c_84 => ?_) (fun c_84 => by exfalso; simp only [fa_lt, fa_le, fa_eq, li_0] at c_84; omega)
                  simp only [fa_lt, fa_le, fa_eq, li_0] at c_84
                  refine lv_iload_n hx hb dX12_ahead_97 rfl (lv_at hl 3 rfl) ?_
                  refine lv_iconst (v := 1) hx hb dX12_ahead_98 (by decide) ?_
                  refine lv_icmp_ne (tgt := 111) hx hb dX12_ahead_99 (by decide) (fun c_99 => ?_) (fun c_99 => by exfalso; simp only [fa_lt, fa_le, fa_eq, li_1] at c_99; omega)
                  simp only [fa_lt, fa_le, fa_eq, li_1] at c_99
                  refine lv_aload_n hx hb dX12_ahead_111 rfl (lv_at hl 0 rfl) ?_
                  refine t_getk (ci := 12) (C := RX12) (T := TX12) (N := 38) hx hb hts iX12 hown hw rfl 20 (by decide) (hts _ tw_1145) (fun _ h9 => h9) dX12_ahead_112 f_a0_X12_20 ?_
                  refine lv_bipush (v := 34) hx hb dX12_ahead_115 (by decide) ?_
                  refine lv_iload_n hx hb dX12_ahead_117 rfl (lv_at hl 1 rfl) ?_
                  refine lv_iadd hx hb dX12_ahead_118 ?_
                  refine lv_topi (fun v118 e_v118 => ?_)
                  have e_v118 : v118.toInt = 34 + a1.toInt := ad_i e_v118 li_34 rfl (by omega) (by omega)
                  refine t_iald hx hb hw k_f0 rfl rfl (by omega) (show v118.toInt < 306 by omega) dX12_ahead_119 (fun v119 r_v119 s_v119 q_v119 => ?_)
                  have l_v119 := i32_lo v119
                  have h_v119 := i32_hi v119
                  exact J120 _ _ _ w67 v119 hw hM (by omega) (by omega) f_a0_X12_20 f_f0_M_said_10 (lv_sub hl [0, 1, 2, 3, 4] rfl)
                · simp only [fa_lt, fa_le, fa_eq] at c_70
                  refine lv_aload_n hx hb dX12_ahead_73 rfl (lv_at hl 0 rfl) ?_
                  refine t_callv (va_runV (As := []) (rest := []) ⟨hx, hb, hml, hown, hts⟩ (t_X12_passes l dC dI tys κ B w67 hw.2.2.2.2 a0 k_a0 f0 k_f0 f_a0_X12_20 p67_m_f0_M_said_10 (by omega) (by omega) f_f0_M_said_10 (hRT.sm hM (by decide) (by decide)) H.size) (cwV 0 hts (gUV tw_1497 tw_1499 ts_5_14 tw_13 tw_1500) rfl rfl rfl (by decide +kernel) ⟨(Nat.le_of_ble_eq_true rfl), (Nat.le_of_ble_eq_true rfl)⟩) ⟨cPre.blind, t_recv hw (ci := 12) k_a0 rfl rfl, cPre.use hw.2.1 hw.1 hw.2.2.1 hE⟩ rfl rfl hl.1 rfl (lv_room (Nat.le_of_ble_eq_true rfl)) dX12_ahead_74 ⟨(Nat.le_of_ble_eq_true rfl), (Nat.le_of_ble_eq_true rfl)⟩) hw hA (fun _ h => h.1) (fun w_11 H locs hp hw => ?_)
                  obtain ⟨_, hm, ⟨v74d, l_v74d, h_v74d, f_f0_M_said_10, y_v74⟩⟩ := hp
                  have hM := hM.trans hm (by decide) (by decide)
                  have f_a0_X12_20 := hm.1 _ _ _ _ f_a0_X12_20 (by decide)
                  obtain ⟨v77, e_v77⟩ : ∃ y : Int32, y = p67_l4 + 1 := ⟨_, rfl⟩
                  refine lv_iinc (v := v77) (lv' := [(4, .int v77), (0, .ref a0), (1, .int a1), (2, .int a2), (3, .int a3)]) hx hb dX12_ahead_77 hl (k := 4) rfl e_v77.symm (by decide) rfl (fun ls hl => ?_)
                  have e_v77 : v77.toInt = p67_l4.toInt + 1 := ad_i e_v77 rfl li_1 (by omega) (by omega)
                  refine lv_goto (tgt := 67) hx hb dX12_ahead_80 (by decide) ?_
                  exact ih_67 _ _ _ _ (by omega) ⟨w_11, v77, v74d, hw, hM, (by omega), (by omega), (by omega), (by omega), f_a0_X12_20, f_f0_M_said_10, (by omega), (lv_sub hl [1, 2, 3, 4, 0] rfl), rfl⟩
              exact J67 _ _ _ _ ⟨w_9, 0, f1, hw, hM, (by decide), (by decide), (by omega), (by omega), f_a0_X12_20, f_f0_M_said_10, (by have := li_0; omega), (lv_sub hl [1, 2, 3, 4, 0] rfl), rfl⟩
            · simp only [fa_lt, fa_le, fa_eq, li_0] at c_54
              refine lv_bipush (v := (-2)) hx hb dX12_ahead_57 (by decide) ?_
              rw [hQ]
              refine W.widen (k := 0) (n := 0) (Nat.le_refl _) (Nat.le_refl _) ?_
              exact W.iret (v := (-2)) hx hb hr (fun t ht hW => ⟨⟨(-2), w_8, rfl, ⟨hw.2.2.2.2, hM, ⟨f1, (by omega), (by omega), f_f0_M_said_10⟩⟩, by rw [ht]; exact hw.2.1, va_K.moved hW.alike hw.1, hw.2.2.1⟩, hw.2.2.2.1.F ht⟩) hw.2.2.2.1.2.2 dX12_ahead_59
        · simp only [fa_lt, fa_le, fa_eq, li_1] at c_33
          refine lv_aload_n hx hb dX12_ahead_36 rfl (lv_at hl 0 rfl) ?_
          refine lv_iload_n hx hb dX12_ahead_37 rfl (lv_at hl 1 rfl) ?_
          refine t_calli (va_runV (As := [.int a1]) (rest := []) ⟨hx, hb, hml, hown, hts⟩ (t_X12_isBoy l dC dI tys κ B w_3 hw.2.2.2.2 a0 k_a0 a1 H.size) (cwV 1 hts (gUV tw_1448 tw_1450 ts_5_7 tw_13 tw_1451) rfl rfl rfl (by decide +kernel) ⟨(Nat.le_of_ble_eq_true rfl), (Nat.le_of_ble_eq_true rfl)⟩) ⟨cPre.blind, t_recv hw (ci := 12) k_a0 rfl rfl, cPre.use hw.2.1 hw.1 hw.2.2.1 hE⟩ rfl rfl hl.1 rfl (lv_room (Nat.le_of_ble_eq_true rfl)) dX12_ahead_38 ⟨(Nat.le_of_ble_eq_true rfl), (Nat.le_of_ble_eq_true rfl)⟩) hw hA (fun _ _ h => h.2.2.1) (fun v38 w_12 H locs hp hw => ?_)
          obtain ⟨l_v38, h_v38, _, hm, x_v38_0⟩ := hp
          have hM := hM.trans hm (by decide) (by decide)
          have f_a0_X12_20 := hm.1 _ _ _ _ f_a0_X12_20 (by decide)
          have f_f0_M_said_10 := hm.elt k_f0 (by decide) f_f0_M_said_10
          refine lv_if_eq (tgt := 57) hx hb dX12_ahead_41 (by decide) (fun c_41 => ?_) (fun c_41 => ?_)
          · simp only [fa_lt, fa_le, fa_eq, li_0] at c_41
            refine lv_bipush (v := (-2)) hx hb dX12_ahead_57 (by decide) ?_
            rw [hQ]
            refine W.widen (k := 0) (n := 0) (Nat.le_refl _) (Nat.le_refl _) ?_
            exact W.iret (v := (-2)) hx hb hr (fun t ht hW => ⟨⟨(-2), w_12, rfl, ⟨hw.2.2.2.2, hM, ⟨f1, (by omega), (by omega), f_f0_M_said_10⟩⟩, by rw [ht]; exact hw.2.1, va_K.moved hW.alike hw.1, hw.2.2.1⟩, hw.2.2.2.1.F ht⟩) hw.2.2.2.1.2.2 dX12_ahead_59
          · simp only [fa_lt, fa_le, fa_eq, li_0] at c_41
            refine lv_iload_n hx hb dX12_ahead_44 rfl (lv_at hl 3 rfl) ?_
            refine lv_iconst (v := 2) hx hb dX12_ahead_45 (by decide) ?_
            refine lv_icmp_ne (tgt := 60) hx hb dX12_ahead_46 (by decide) (fun c_46 => ?_) (fun c_46 => by exfalso; simp only [fa_lt, fa_le, fa_eq, li_2] at c_46; omega)
            simp only [fa_lt, fa_le, fa_eq, li_2] at c_46
            refine lv_aload_n hx hb dX12_ahead_60 rfl (lv_at hl 0 rfl) ?_
            refine t_callv (va_runV (As := []) (rest := []) ⟨hx, hb, hml, hown, hts⟩ (t_X12_keeps l dC dI tys κ B w_12 hw.2.2.2.2 a0 k_a0 f0 k_f0 f_a0_X12_20 f1 (by omega) (by omega) f_f0_M_said_10 H.size) (cwV 0 hts (gUV tw_1598 tw_1600 ts_7_0 tw_13 tw_1601) rfl rfl rfl (by decide +kernel) ⟨(Nat.le_of_ble_eq_true rfl), (Nat.le_of_ble_eq_true rfl)⟩) ⟨cPre.blind, t_recv hw (ci := 12) k_a0 rfl rfl, cPre.use hw.2.1 hw.1 hw.2.2.1 hE⟩ rfl rfl hl.1 rfl (lv_room (Nat.le_of_ble_eq_true rfl)) dX12_ahead_61 ⟨(Nat.le_of_ble_eq_true rfl), (Nat.le_of_ble_eq_true rfl)⟩) hw hA (fun _ h => h.1) (fun w_13 H locs hp hw => ?_)
            obtain ⟨_, hm⟩ := hp
            have hM := hM.trans hm (by decide) (by decide)
            have f_a0_X12_20 := hm.1 _ _ _ _ f_a0_X12_20 (by decide)
            have f_f0_M_said_10 := hm.elt k_f0 (by decide) f_f0_M_said_10
            refine lv_iconst (v := 0) hx hb dX12_ahead_64 (by decide) ?_
            refine lv_istore (lv' := [(4, .int 0), (0, .ref a0), (1, .int a1), (2, .int a2), (3, .int a3)]) hx hb dX12_ahead_65 hl (by decide) rfl (fun ls hl => ?_)
            have J67 : ∀ (n : Nat) (H : Heap) (locs : List Loc) (ls : Array Slot), (∃ (w67 : va_W) (p67_l4 : Int32) (p67_m_f0_M_said_10 : Int32), tW (dC, dI) tys κ B A s w67 H locs ∧ Sm [(12, 18), (12, 24)] [61, 62, 63, 64, 66] κ ws w67 ∧ 0 ≤ p67_l4.toInt ∧ p67_l4.toInt ≤ 60 ∧ 0 ≤ p67_m_f0_M_said_10.toInt ∧ p67_m_f0_M_said_10.toInt ≤ 1999 ∧ fld w67 a0 12 20 (.ref f0) ∧ elt w67 f0 (10 : Int32).toInt.toNat p67_m_f0_M_said_10 ∧ p67_m_f0_M_said_10.toInt ≤ 999 + p67_l4.toInt ∧ lv_has ls 5 [(0, .ref a0), (1, .int a1), (2, .int a2), (3, .int a3), (4, .int p67_l4)] ∧ (60 - p67_l4.toInt).toNat = n) → W p l e (headSpec (ws_u yX12_ahead cX12_ahead 5 (some .int)) ({ frames := 9, cells := 0, slots := 0, locals := 210 })).room s m ([.ref a0, .int a1, .int a2, .int a3] : List Value).toArray below meth c H locs 0 0 QQ (F0 m 67 ls []) := by
              refine loopT _ ?_
              intro n_67 H locs ls hI ih_67
              obtain ⟨w67, p67_l4, p67_m_f0_M_said_10, hw, hM, l_p67_l4, h_p67_l4, l_p67_m_f0_M_said_10, h_p67_m_f0_M_said_10, f_a0_X12_20, f_f0_M_said_10, li_67_0, hl, hn_67⟩ := hI
              refine lv_iload hx hb dX12_ahead_67 (lv_at hl 4 rfl) ?_
              refine lv_iload_n hx hb dX12_ahead_69 rfl (lv_at hl 2 rfl) ?_
              refine lv_icmp_ge (tgt := 83) hx hb dX12_ahead_70 (by decide) (fun c_70 => ?_) (fun c_70 => ?_)
              · simp only [fa_lt, fa_le, fa_eq] at c_70
                refine lv_iload_n hx hb dX12_ahead_83 rfl (lv_at hl 3 rfl) ?_
                have J120 : ∀ (H : Heap) (locs : List Loc) (ls : Array Slot) (w120 : va_W) (p120_s0 : Int32), tW (dC, dI) tys κ B A s w120 H locs → Sm [(12, 18), (12, 24)] [61, 62, 63, 64, 66] κ ws w120 → (-2147483648) ≤ p120_s0.toInt → p120_s0.toInt ≤ 2147483647 → fld w120 a0 12 20 (.ref f0) → elt w120 f0 (10 : Int32).toInt.toNat p67_m_f0_M_said_10 → lv_has ls 5 [(0, .ref a0), (1, .int a1), (2, .int a2), (3, .int a3), (4, .int p67_l4)] → W p l e (headSpec (ws_u yX12_ahead cX12_ahead 5 (some .int)) ({ frames := 9, cells := 0, slots := 0, locals := 210 })).room s m ([.ref a0, .int a1, .int a2, .int a3] : List Value).toArray below meth c H locs 0 0 QQ (F0 m 120 ls [.int p120_s0]) := by
                  intro H locs ls w120 p120_s0 hw hM l_p120_s0 h_p120_s0 f_a0_X12_20 f_f0_M_said_10 hl
                  refine lv_istore (lv' := [(4, .int p120_s0), (0, .ref a0), (1, .int a1), (2, .int a2), (3, .int a3)]) hx hb dX12_ahead_120 hl (by decide) rfl (fun ls hl => ?_)
                  refine lv_aload_n hx hb dX12_ahead_122 rfl (lv_at hl 1 rfl) ?_
                  refine t_callv (va_runV (As := []) (rest := []) ⟨hx, hb, hml, hown, hts⟩ (t_X12_laysBack l dC dI tys κ B w120 hw.2.2.2.2 a0 k_a0 f0 k_f0 f_a0_X12_20 H.size) (cwV 0 hts (gUV tw_1602 tw_1604 ts_7_1 tw_13 tw_1605) rfl rfl rfl (by decide +kernel) ⟨(Nat.le_of_ble_eq_true rfl), (Nat.le_of_ble_eq_true rfl)⟩) ⟨cPre.blind, t_recv hw (ci := 12) k_a0 rfl rfl, cPre.use hw.2.1 hw.1 hw.2.2.1 hE⟩ rfl rfl hl.1 rfl (lv_room (Nat.le_of_ble_eq_true rfl)) dX12_ahead_123 ⟨(Nat.le_of_ble_eq_true rfl), (Nat.le_of_ble_eq_true rfl)⟩) hw hA (fun _ h => h.1) (fun w_14 H locs hp hw => ?_)
                  obtain ⟨_, hm, ⟨v123d, l_v123d, h_v123d, f_f0_M_said_10⟩⟩ := hp
                  have hM := hM.trans hm (by decide) (by decide)
                  have f_a0_X12_20 := hm.1 _ _ _ _ f_a0_X12_20 (by decide)
                  refine lv_iload hx hb dX12_ahead_126 (lv_at hl 0 rfl) ?_
                  rw [hQ]
                  refine W.widen (k := 0) (n := 0) (Nat.le_refl _) (Nat.le_refl _) ?_
                  exact W.iret (v := p120_s0) hx hb hr (fun t ht hW => ⟨⟨p120_s0, w_14, rfl, ⟨hw.2.2.2.2, hM, ⟨v123d, (by omega), (by omega), f_f0_M_said_10⟩⟩, by rw [ht]; exact hw.2.1, va_K.moved hW.alike hw.1, hw.2.2.1⟩, hw.2.2.2.1.F ht⟩) hw.2.2.2.1.2.2 dX12_ahead_128
                refine lv_if_ne (tgt := 97) hx hb dX12_ahead_84 (by decide) (fun c_84 => ?_) (fun c_84 => by exfalso; simp only [fa_lt, fa_le, fa_eq, li_0] at c_84; omega)
                simp only [fa_lt, fa_le, fa_eq, li_0] at c_84
                refine lv_iload_n hx hb dX12_ahead_97 rfl (lv_at hl 3 rfl) ?_
                refine lv_iconst (v := 1) hx hb dX12_ahead_98 (by decide) ?_
                refine lv_icmp_ne (tgt := 111) hx hb dX12_ahead_99 (by decide) (fun c_99 => by exfalso; simp only [fa_lt, fa_le, fa_eq, li_1] at c_99; omega) (fun c_99 => ?_)
                simp only [fa_lt, fa_le, fa_eq, li_1] at c_99
                refine lv_aload_n hx hb dX12_ahead_102 rfl (lv_at hl 0 rfl) ?_
                refine lv_iload_n hx hb dX12_ahead_103 rfl (lv_at hl 1 rfl) ?_
                refine lv_iconst (v := 0) hx hb dX12_ahead_104 (by decide) ?_
                refine t_calli (va_runV (As := [.int a1, .int 0]) (rest := []) ⟨hx, hb, hml, hown, hts⟩ (t_X12_boyOf l dC dI tys κ B w67 hw.2.2.2.2 a0 k_a0 a1 (by omega) (by omega) 0 (by decide) (by decide) H.size) (cwV 2 hts (gUV tw_1453 tw_1455 ts_5_8 tw_13 tw_1456) rfl rfl rfl (by decide +kernel) ⟨(Nat.le_of_ble_eq_true rfl), (Nat.le_of_ble_eq_true rfl)⟩) ⟨cPre.blind, t_recv hw (ci := 12) k_a0 rfl rfl, cPre.use hw.2.1 hw.1 hw.2.2.1 hE⟩ rfl rfl hl.1 rfl (lv_room (Nat.le_of_ble_eq_true rfl)) dX12_ahead_105 ⟨(Nat.le_of_ble_eq_true rfl), (Nat.le_of_ble_eq_true rfl)⟩) hw hA (fun _ _ h => h.1) (fun v105 w_15 H locs hp hw => ?_)
                obtain ⟨_, hm⟩ := hp
                have l_v105 := i32_lo v105
                have h_v105 := i32_hi v105
                have hM := hM.trans hm (by decide) (by decide)
                have f_a0_X12_20 := hm.1 _ _ _ _ f_a0_X12_20 (by decide)
                have f_f0_M_said_10 := hm.elt k_f0 (by decide) f_f0_M_said_10
                refine lv_goto (tgt := 120) hx hb dX12_ahead_108 (by decide) ?_
                exact J120 _ _ _ w_15 v105 hw hM (by omega) (by omega) f_a0_X12_20 f_f0_M_said_10 (lv_sub hl [0, 1, 2, 3, 4] rfl)
              · simp only [fa_lt, fa_le, fa_eq] at c_70
                refine lv_aload_n hx hb dX12_ahead_73 rfl (lv_at hl 0 rfl) ?_
                refine t_callv (va_runV (As := []) (rest := []) ⟨hx, hb, hml, hown, hts⟩ (t_X12_passes l dC dI tys κ B w67 hw.2.2.2.2 a0 k_a0 f0 k_f0 f_a0_X12_20 p67_m_f0_M_said_10 (by omega) (by omega) f_f0_M_said_10 (hRT.sm hM (by decide) (by decide)) H.size) (cwV 0 hts (gUV tw_1497 tw_1499 ts_5_14 tw_13 tw_1500) rfl rfl rfl (by decide +kernel) ⟨(Nat.le_of_ble_eq_true rfl), (Nat.le_of_ble_eq_true rfl)⟩) ⟨cPre.blind, t_recv hw (ci := 12) k_a0 rfl rfl, cPre.use hw.2.1 hw.1 hw.2.2.1 hE⟩ rfl rfl hl.1 rfl (lv_room (Nat.le_of_ble_eq_true rfl)) dX12_ahead_74 ⟨(Nat.le_of_ble_eq_true rfl), (Nat.le_of_ble_eq_true rfl)⟩) hw hA (fun _ h => h.1) (fun w_16 H locs hp hw => ?_)
                obtain ⟨_, hm, ⟨v74d, l_v74d, h_v74d, f_f0_M_said_10, y_v74⟩⟩ := hp
                have hM := hM.trans hm (by decide) (by decide)
                have f_a0_X12_20 := hm.1 _ _ _ _ f_a0_X12_20 (by decide)
                obtain ⟨v77, e_v77⟩ : ∃ y : Int32, y = p67_l4 + 1 := ⟨_, rfl⟩
                refine lv_iinc (v := v77) (lv' := [(4, .int v77), (0, .ref a0), (1, .int a1), (2, .int a2), (3, .int a3)]) hx hb dX12_ahead_77 hl (k := 4) rfl e_v77.symm (by decide) rfl (fun ls hl => ?_)
                have e_v77 : v77.toInt = p67_l4.toInt + 1 := ad_i e_v77 rfl li_1 (by omega) (by omega)
                refine lv_goto (tgt := 67) hx hb dX12_ahead_80 (by decide) ?_
                exact ih_67 _ _ _ _ (by omega) ⟨w_16, v77, v74d, hw, hM, (by omega), (by omega), (by omega), (by omega), f_a0_X12_20, f_f0_M_said_10, (by omega), (lv_sub hl [1, 2, 3, 4, 0] rfl), rfl⟩
            exact J67 _ _ _ _ ⟨w_13, 0, f1, hw, hM, (by decide), (by decide), (by omega), (by omega), f_a0_X12_20, f_f0_M_said_10, (by have := li_0; omega), (lv_sub hl [1, 2, 3, 4, 0] rfl), rfl⟩
set_option maxHeartbeats 4000000 in
set_option maxRecDepth 100000 in
theorem t_X12_byLast (l : Launch) (dC : Nat → ClassId) (dI : Nat → Nat → Nat) (tys : List (ClassId × FieldType)) (κ : tK) (B : Nat) (ws : va_W) (hT : Ty κ tys B ws) (a0 : Nat) (k_a0 : κ a0 = some 12) (f0 : Nat) (k_f0 : κ f0 = some 63) (f_a0_X12_20 : fld ws a0 12 20 (.ref f0)) (f1 : Int32) (l_f1 : 0 ≤ f1.toInt) (h_f1 : f1.toInt ≤ 6) (f_f0_M_said_3 : elt ws f0 (3 : Int32).toInt.toNat f1) (sz : Nat) : Met l yX12_byLast (ws_u yX12_byLast cX12_byLast 7 (some .int)) ({ frames := 2, cells := 0, slots := 0, locals := 47 }) (va_Pc [.ref a0] (cPre (dC, dI) tys ws sz)) (va_Qi (fun (r : Int32) (w : va_W) => (-1) ≤ r.toInt ∧ r.toInt ≤ 5 ∧ Ty κ tys B w ∧ Sm [] [] κ ws w) (fun w t => cPost (dC, dI) tys w (va_A ws sz) t) (va_A ws sz)) 0 0 (va_A ws sz) := by
  refine Met.ofW (cc := cX12_byLast) (maxL := 7) (ret := (some .int)) (by decide) rfl ?_
  intro p e s m args below meth c s₁ B0 hml hv
  obtain ⟨rfl, hsz, hP, hK, hD0, hE⟩ := hv
  have hx := B0.exec
  have hb := B0.bytes
  have hr := B0.returns
  have hts0 := atoms_spec (ws := ws_u yX12_byLast cX12_byLast 7 (some .int)) B0.pre
  have hts : ∀ w ∈ gT, w.before _ s = true := fun w h => hts0 w (List.mem_cons_of_mem _ h)
  have hown : s.vm.findClass RX12 = some m.cls := findClass_of_methodNamed B0.named
  have hlocks := B0.notSynchronized
  subst hsz
  have hD := hD0.self (sz := s.heap.size)
  generalize hAe : va_A ws s.heap.size = A at hD ⊢
  have hA : ∀ q : Nat, s.heap.size ≤ q → A q := fun q h => by rw [← hAe]; exact Or.inr h
  have hw : tW (dC, dI) tys κ B A s ws s.heap [] := ⟨hK, hP, hD, va_S.rf, hT⟩
  have hM : Sm [] [] κ ws ws := Sm.rf
  clear hP hK hD hD0 hts0
  have hl := lv_entry ([.ref a0]) (n := 7) (Nat.le_of_ble_eq_true rfl)
  rw [lg_entry_eq]
  generalize (lg_sl ([.ref a0]) ++ List.replicate (7 - (lg_sl ([.ref a0])).length) Slot.unset).toArray = ls at hl ⊢
  have hl : lv_has ls 7 [(0, .ref a0)] := hl
  refine t_start (fun QQ hQ => ?_)
  refine lv_iconst (v := 0) hx hb dX12_byLast_0 (by decide) ?_
  refine lv_istore_n (lv' := [(1, .int 0), (0, .ref a0)]) hx hb dX12_byLast_1 rfl hl (by decide) rfl (fun ls hl => ?_)
  refine lv_iconst (v := 0) hx hb dX12_byLast_2 (by decide) ?_
  refine lv_istore_n (lv' := [(2, .int 0), (1, .int 0), (0, .ref a0)]) hx hb dX12_byLast_3 rfl hl (by decide) rfl (fun ls hl => ?_)
  have J4 : ∀ (n : Nat) (H : Heap) (locs : List Loc) (ls : Array Slot), (∃ (w4 : va_W) (p4_l1 : Int32) (p4_l2 : Int32), tW (dC, dI) tys κ B A s w4 H locs ∧ Sm [] [] κ ws w4 ∧ (-2147483648) ≤ p4_l1.toInt ∧ p4_l1.toInt ≤ 2147483647 ∧ 0 ≤ p4_l2.toInt ∧ p4_l2.toInt ≤ 6 ∧ fld w4 a0 12 20 (.ref f0) ∧ elt w4 f0 (3 : Int32).toInt.toNat f1 ∧ p4_l2.toInt ≤ f1.toInt ∧ (0 ≤ p4_l1.toInt ∧ p4_l1.toInt < pw p4_l2.toInt) ∧ lv_has ls 7 [(0, .ref a0), (1, .int p4_l1), (2, .int p4_l2)] ∧ (6 - p4_l2.toInt).toNat = n) → W p l e (headSpec (ws_u yX12_byLast cX12_byLast 7 (some .int)) ({ frames := 2, cells := 0, slots := 0, locals := 47 })).room s m ([.ref a0] : List Value).toArray below meth c H locs 0 0 QQ (F0 m 4 ls []) := by
    refine loopT _ ?_
    intro n_4 H locs ls hI ih_4
    obtain ⟨w4, p4_l1, p4_l2, hw, hM, l_p4_l1, h_p4_l1, l_p4_l2, h_p4_l2, f_a0_X12_20, f_f0_M_said_3, li_4_0, hL, hl, hn_4⟩ := hI
    refine lv_iload_n hx hb dX12_byLast_4 rfl (lv_at hl 2 rfl) ?_
    refine lv_aload_n hx hb dX12_byLast_5 rfl (lv_at hl 0 rfl) ?_
    refine t_getk (ci := 12) (C := RX12) (T := TX12) (N := 38) hx hb hts iX12 hown hw rfl 20 (by decide) (hts _ tw_1145) (fun _ h9 => h9) dX12_byLast_6 f_a0_X12_20 ?_
    refine lv_iconst (v := 3) hx hb dX12_byLast_9 (by decide) ?_
    refine t_ialdk hx hb hw k_f0 rfl rfl (by decide) (by decide) f_f0_M_said_3 dX12_byLast_10 ?_
    have J38 : ∀ (n : Nat) (H : Heap) (locs : List Loc) (ls : Array Slot), (∃ (w38 : va_W) (p38_l1 : Int32) (p38_l2 : Int32), tW (dC, dI) tys κ B A s w38 H locs ∧ Sm [] [] κ ws w38 ∧ (-2147483648) ≤ p38_l1.toInt ∧ p38_l1.toInt ≤ 2147483647 ∧ (-1) ≤ p38_l2.toInt ∧ p38_l2.toInt ≤ 6 ∧ fld w38 a0 12 20 (.ref f0) ∧ elt w38 f0 (3 : Int32).toInt.toNat f1 ∧ (0 ≤ p38_l1.toInt ∧ p38_l1.toInt < pw f1.toInt) ∧ lv_has ls 7 [(0, .ref a0), (1, .int p38_l1), (2, .int p38_l2)] ∧ c6 p38_l1 = n) → W p l e (headSpec (ws_u yX12_byLast cX12_byLast 7 (some .int)) ({ frames := 2, cells := 0, slots := 0, locals := 47 })).room s m ([.ref a0] : List Value).toArray below meth c H locs 0 0 QQ (F0 m 38 ls []) := by
      refine loopT _ ?_
      intro n_38 H locs ls hI ih_38
      obtain ⟨w38, p38_l1, p38_l2, hw, hM, l_p38_l1, h_p38_l1, l_p38_l2, h_p38_l2, f_a0_X12_20, f_f0_M_said_3, hL, hl, hn_38⟩ := hI
      refine lv_iload_n hx hb dX12_byLast_38 rfl (lv_at hl 1 rfl) ?_
      refine t_calli (va_runS (As := [.int p38_l1]) (rest := []) ⟨hx, hb, hml, hown, hts⟩ (t_X12_bits l dC dI tys κ B w38 hw.2.2.2.2 p38_l1 H.size) (va_cwS 1 hts (gUS tw_1634 tw_1635 tw_13 tw_1636) rfl rfl rfl (by decide +kernel) ⟨(Nat.le_of_ble_eq_true rfl), (Nat.le_of_ble_eq_true rfl)⟩) ⟨cPre.blind, cPre.use hw.2.1 hw.1 hw.2.2.1 hE⟩ rfl rfl hl.1 rfl (lv_room (Nat.le_of_ble_eq_true rfl)) dX12_byLast_39 ⟨(Nat.le_of_ble_eq_true rfl), (Nat.le_of_ble_eq_true rfl)⟩) hw hA (fun _ _ h => h.1) (fun v39 w_1 H locs hp hw => ?_)
      obtain ⟨_, hm, x_v39_0⟩ := hp
      have l_v39 := i32_lo v39
      have h_v39 := i32_hi v39
      have hM := hM.trans hm (by decide) (by decide)
      have f_a0_X12_20 := hm.1 _ _ _ _ f_a0_X12_20 (by decide)
      have f_f0_M_said_3 := hm.elt k_f0 (by decide) f_f0_M_said_3
      refine lv_iconst (v := 1) hx hb dX12_byLast_42 (by decide) ?_
      refine lv_icmp_le (tgt := 157) hx hb dX12_byLast_43 (by decide) (fun c_43 => ?_) (fun c_43 => ?_)
      · simp only [fa_lt, fa_le, fa_eq, li_1] at c_43
        refine lv_iload_n hx hb dX12_byLast_157 rfl (lv_at hl 1 rfl) ?_
        refine lv_if_ne (tgt := 165) hx hb dX12_byLast_158 (by decide) (fun c_158 => ?_) (fun c_158 => ?_)
        · simp only [fa_lt, fa_le, fa_eq, li_0] at c_158
          refine lv_aload_n hx hb dX12_byLast_165 rfl (lv_at hl 0 rfl) ?_
          refine lv_iconst (v := 0) hx hb dX12_byLast_166 (by decide) ?_
          refine lv_iload_n hx hb dX12_byLast_167 rfl (lv_at hl 1 rfl) ?_
          refine t_calli (va_runV (As := [.int 0, .int p38_l1]) (rest := []) ⟨hx, hb, hml, hown, hts⟩ (t_X12_firstOf l dC dI tys κ B w_1 hw.2.2.2.2 a0 k_a0 0 (by decide) (by decide) p38_l1 H.size) (cwV 2 hts (gUV tw_1640 tw_1642 ts_7_7 tw_13 tw_1643) rfl rfl rfl (by decide +kernel) ⟨(Nat.le_of_ble_eq_true rfl), (Nat.le_of_ble_eq_true rfl)⟩) ⟨cPre.blind, t_recv hw (ci := 12) k_a0 rfl rfl, cPre.use hw.2.1 hw.1 hw.2.2.1 hE⟩ rfl rfl hl.1 rfl (lv_room (Nat.le_of_ble_eq_true rfl)) dX12_byLast_168 ⟨(Nat.le_of_ble_eq_true rfl), (Nat.le_of_ble_eq_true rfl)⟩) hw hA (fun _ _ h => h.2.2.1) (fun v168 w_2 H locs hp hw => ?_)
          obtain ⟨l_v168, h_v168, _, hm⟩ := hp
          have hM := hM.trans hm (by decide) (by decide)
          have f_a0_X12_20 := hm.1 _ _ _ _ f_a0_X12_20 (by decide)
          have f_f0_M_said_3 := hm.elt k_f0 (by decide) f_f0_M_said_3
          rw [hQ]
          refine W.widen (k := 0) (n := 0) (Nat.le_refl _) (Nat.le_refl _) ?_
          exact W.iret (v := v168) hx hb hr (fun t ht hW => ⟨⟨v168, w_2, rfl, ⟨(by omega), (by omega), hw.2.2.2.2, hM⟩, by rw [ht]; exact hw.2.1, va_K.moved hW.alike hw.1, hw.2.2.1⟩, hw.2.2.2.1.F ht⟩) hw.2.2.2.1.2.2 dX12_byLast_171
        · simp only [fa_lt, fa_le, fa_eq, li_0] at c_158
          refine lv_iconst (v := (-1)) hx hb dX12_byLast_161 (by decide) ?_
          refine lv_goto (tgt := 171) hx hb dX12_byLast_162 (by decide) ?_
          rw [hQ]
          refine W.widen (k := 0) (n := 0) (Nat.le_refl _) (Nat.le_refl _) ?_
          exact W.iret (v := (-1)) hx hb hr (fun t ht hW => ⟨⟨(-1), w_1, rfl, ⟨(by decide), (by decide), hw.2.2.2.2, hM⟩, by rw [ht]; exact hw.2.1, va_K.moved hW.alike hw.1, hw.2.2.1⟩, hw.2.2.2.1.F ht⟩) hw.2.2.2.1.2.2 dX12_byLast_171
      · simp only [fa_lt, fa_le, fa_eq, li_1] at c_43
        refine lv_iconst (v := (-1)) hx hb dX12_byLast_46 (by decide) ?_
        refine lv_istore_n (lv' := [(2, .int (-1)), (0, .ref a0), (1, .int p38_l1)]) hx hb dX12_byLast_47 rfl hl (by decide) rfl (fun ls hl => ?_)
        refine lv_iconst (v := 0) hx hb dX12_byLast_48 (by decide) ?_
        refine lv_istore_n (lv' := [(3, .int 0), (2, .int (-1)), (0, .ref a0), (1, .int p38_l1)]) hx hb dX12_byLast_49 rfl hl (by decide) rfl (fun ls hl => ?_)
        refine lv_iconst (v := 0) hx hb dX12_byLast_50 (by decide) ?_
        refine lv_istore (lv' := [(4, .int 0), (3, .int 0), (2, .int (-1)), (0, .ref a0), (1, .int p38_l1)]) hx hb dX12_byLast_51 hl (by decide) rfl (fun ls hl => ?_)
        have J53 : ∀ (n : Nat) (H : Heap) (locs : List Loc) (ls : Array Slot), (∃ (w53 : va_W) (p53_l2 : Int32) (p53_l3 : Int32) (p53_l4 : Int32), tW (dC, dI) tys κ B A s w53 H locs ∧ Sm [] [] κ ws w53 ∧ (-1) ≤ p53_l2.toInt ∧ p53_l2.toInt ≤ 5 ∧ (-2147483648) ≤ p53_l3.toInt ∧ p53_l3.toInt ≤ 2147483647 ∧ 0 ≤ p53_l4.toInt ∧ p53_l4.toInt ≤ 6 ∧ fld w53 a0 12 20 (.ref f0) ∧ elt w53 f0 (3 : Int32).toInt.toNat f1 ∧ p53_l4.toInt ≤ f1.toInt ∧ BW p38_l1 p53_l2 p53_l4 f1.toInt ∧ lv_has ls 7 [(0, .ref a0), (1, .int p38_l1), (2, .int p53_l2), (3, .int p53_l3), (4, .int p53_l4)] ∧ (6 - p53_l4.toInt).toNat = n) → W p l e (headSpec (ws_u yX12_byLast cX12_byLast 7 (some .int)) ({ frames := 2, cells := 0, slots := 0, locals := 47 })).room s m ([.ref a0] : List Value).toArray below meth c H locs 0 0 QQ (F0 m 53 ls []) := by
          refine loopT _ ?_
          intro n_53 H locs ls hI ih_53
          obtain ⟨w53, p53_l2, p53_l3, p53_l4, hw, hM, l_p53_l2, h_p53_l2, l_p53_l3, h_p53_l3, l_p53_l4, h_p53_l4, f_a0_X12_20, f_f0_M_said_3, li_53_0, hW, hl, hn_53⟩ := hI
          refine lv_iload hx hb dX12_byLast_53 (lv_at hl 4 rfl) ?_
          refine lv_aload_n hx hb dX12_byLast_55 rfl (lv_at hl 0 rfl) ?_
          refine t_getk (ci := 12) (C := RX12) (T := TX12) (N := 38) hx hb hts iX12 hown hw rfl 20 (by decide) (hts _ tw_1145) (fun _ h9 => h9) dX12_byLast_56 f_a0_X12_20 ?_
          refine lv_iconst (v := 3) hx hb dX12_byLast_59 (by decide) ?_
          refine t_ialdk hx hb hw k_f0 rfl rfl (by decide) (by decide) f_f0_M_said_3 dX12_byLast_60 ?_
          refine lv_icmp_ge (tgt := 146) hx hb dX12_byLast_61 (by decide) (fun c_61 => ?_) (fun c_61 => ?_)
          · simp only [fa_lt, fa_le, fa_eq] at c_61
            refine lv_iload_n hx hb dX12_byLast_146 rfl (lv_at hl 1 rfl) ?_
            refine lv_iconst (v := 1) hx hb dX12_byLast_147 (by decide) ?_
            refine lv_iload_n hx hb dX12_byLast_148 rfl (lv_at hl 2 rfl) ?_
            refine lv_ishl hx hb dX12_byLast_149 ?_
            refine lv_topi (fun v149 e_v149 => ?_)
            have l_v149 := i32_lo v149
            have h_v149 := i32_hi v149
            refine lv_iconst (v := (-1)) hx hb dX12_byLast_150 (by decide) ?_
            refine lv_ixor hx hb dX12_byLast_151 ?_
            refine lv_topi (fun v151 e_v151 => ?_)
            have l_v151 := i32_lo v151
            have h_v151 := i32_hi v151
            refine lv_iand hx hb dX12_byLast_152 ?_
            refine lv_topi (fun v152 e_v152 => ?_)
            have l_v152 := i32_lo v152
            have h_v152 := i32_hi v152
            have hpl := pw_le (b := f1) (by omega) (by omega)
            have hwb := hW.get (by omega) (by omega) (by omega) hL (by omega)
            have hcl := c6_clear (s := p38_l1) (f := p53_l2) rfl rfl hwb.2.2 e_v149 e_v151 e_v152 (by omega) (by omega) (by omega) (by omega)
            have hle := and_l e_v152 rfl hL.1
            refine lv_istore_n (lv' := [(1, .int v152), (0, .ref a0), (2, .int p53_l2), (3, .int p53_l3), (4, .int p53_l4)]) hx hb dX12_byLast_153 rfl hl (by decide) rfl (fun ls hl => ?_)
            refine lv_goto (tgt := 38) hx hb dX12_byLast_154 (by decide) ?_
            exact ih_38 _ _ _ _ (by omega) ⟨w53, v152, p53_l2, hw, hM, (by omega), (by omega), (by omega), (by omega), f_a0_X12_20, f_f0_M_said_3, ⟨hcl.2.1, by omega⟩, (lv_sub hl [1, 0, 2] rfl), rfl⟩
          · simp only [fa_lt, fa_le, fa_eq] at c_61
            refine lv_iload_n hx hb dX12_byLast_64 rfl (lv_at hl 1 rfl) ?_
            refine lv_iload hx hb dX12_byLast_65 (lv_at hl 4 rfl) ?_
            refine t_calli (va_runS (As := [.int p38_l1, .int p53_l4]) (rest := []) ⟨hx, hb, hml, hown, hts⟩ (t_X12_isOf l dC dI tys κ B w53 hw.2.2.2.2 p38_l1 p53_l4 (by omega) (by omega) H.size) (va_cwS 2 hts (gUS tw_1637 tw_1638 tw_13 tw_1639) rfl rfl rfl (by decide +kernel) ⟨(Nat.le_of_ble_eq_true rfl), (Nat.le_of_ble_eq_true rfl)⟩) ⟨cPre.blind, cPre.use hw.2.1 hw.1 hw.2.2.1 hE⟩ rfl rfl hl.1 rfl (lv_room (Nat.le_of_ble_eq_true rfl)) dX12_byLast_67 ⟨(Nat.le_of_ble_eq_true rfl), (Nat.le_of_ble_eq_true rfl)⟩) hw hA (fun _ _ h => h.2.2.1) (fun v67 w_3 H locs hp hw => ?_)
            obtain ⟨l_v67, h_v67, _, hm, x_v67_0⟩ := hp
            have hM := hM.trans hm (by decide) (by decide)
            have f_a0_X12_20 := hm.1 _ _ _ _ f_a0_X12_20 (by decide)
            have f_f0_M_said_3 := hm.elt k_f0 (by decide) f_f0_M_said_3
            refine lv_if_ne (tgt := 76) hx hb dX12_byLast_70 (by decide) (fun c_70 => ?_) (fun c_70 => ?_)
            · simp only [fa_lt, fa_le, fa_eq, li_0] at c_70
              refine lv_iconst (v := 0) hx hb dX12_byLast_76 (by decide) ?_
              refine lv_istore (lv' := [(5, .int 0), (0, .ref a0), (1, .int p38_l1), (2, .int p53_l2), (3, .int p53_l3), (4, .int p53_l4)]) hx hb dX12_byLast_77 hl (by decide) rfl (fun ls hl => ?_)
              refine lv_iconst (v := 0) hx hb dX12_byLast_79 (by decide) ?_
              refine lv_istore (lv' := [(6, .int 0), (5, .int 0), (0, .ref a0), (1, .int p38_l1), (2, .int p53_l2), (3, .int p53_l3), (4, .int p53_l4)]) hx hb dX12_byLast_80 hl (by decide) rfl (fun ls hl => ?_)
              have J82 : ∀ (n : Nat) (H : Heap) (locs : List Loc) (ls : Array Slot), (∃ (w82 : va_W) (p82_l5 : Int32) (p82_l6 : Int32), tW (dC, dI) tys κ B A s w82 H locs ∧ Sm [] [] κ ws w82 ∧ (-2147483648) ≤ p82_l5.toInt ∧ p82_l5.toInt ≤ 2147483647 ∧ 0 ≤ p82_l6.toInt ∧ p82_l6.toInt ≤ 6 ∧ fld w82 a0 12 20 (.ref f0) ∧ elt w82 f0 (3 : Int32).toInt.toNat f1 ∧ lv_has ls 7 [(0, .ref a0), (1, .int p38_l1), (2, .int p53_l2), (3, .int p53_l3), (4, .int p53_l4), (5, .int p82_l5), (6, .int p82_l6)] ∧ (6 - p82_l6.toInt).toNat = n) → W p l e (headSpec (ws_u yX12_byLast cX12_byLast 7 (some .int)) ({ frames := 2, cells := 0, slots := 0, locals := 47 })).room s m ([.ref a0] : List Value).toArray below meth c H locs 0 0 QQ (F0 m 82 ls []) := by
                refine loopT _ ?_
                intro n_82 H locs ls hI ih_82
                obtain ⟨w82, p82_l5, p82_l6, hw, hM, l_p82_l5, h_p82_l5, l_p82_l6, h_p82_l6, f_a0_X12_20, f_f0_M_said_3, hl, hn_82⟩ := hI
                refine lv_iload hx hb dX12_byLast_82 (lv_at hl 6 rfl) ?_
                refine lv_aload_n hx hb dX12_byLast_84 rfl (lv_at hl 0 rfl) ?_
                refine t_getk (ci := 12) (C := RX12) (T := TX12) (N := 38) hx hb hts iX12 hown hw rfl 20 (by decide) (hts _ tw_1145) (fun _ h9 => h9) dX12_byLast_85 f_a0_X12_20 ?_
                refine lv_iconst (v := 3) hx hb dX12_byLast_88 (by decide) ?_
                refine t_ialdk hx hb hw k_f0 rfl rfl (by decide) (by decide) f_f0_M_said_3 dX12_byLast_89 ?_
                refine lv_icmp_ge (tgt := 121) hx hb dX12_byLast_90 (by decide) (fun c_90 => ?_) (fun c_90 => ?_)
                · simp only [fa_lt, fa_le, fa_eq] at c_90
                  refine lv_iload_n hx hb dX12_byLast_121 rfl (lv_at hl 2 rfl) ?_
                  refine lv_if_lt (tgt := 134) hx hb dX12_byLast_122 (by decide) (fun c_122 => ?_) (fun c_122 => ?_)
                  · simp only [fa_lt, fa_le, fa_eq, li_0] at c_122
                    refine lv_iload hx hb dX12_byLast_134 (lv_at hl 4 rfl) ?_
                    refine lv_istore_n (lv' := [(2, .int p53_l4), (0, .ref a0), (1, .int p38_l1), (3, .int p53_l3), (4, .int p53_l4), (5, .int p82_l5), (6, .int p82_l6)]) hx hb dX12_byLast_136 rfl hl (by decide) rfl (fun ls hl => ?_)
                    refine lv_iload hx hb dX12_byLast_137 (lv_at hl 5 rfl) ?_
                    refine lv_istore_n (lv' := [(3, .int p82_l5), (2, .int p53_l4), (0, .ref a0), (1, .int p38_l1), (4, .int p53_l4), (5, .int p82_l5), (6, .int p82_l6)]) hx hb dX12_byLast_139 rfl hl (by decide) rfl (fun ls hl => ?_)
                    obtain ⟨v140, e_v140⟩ : ∃ y : Int32, y = p53_l4 + 1 := ⟨_, rfl⟩
                    refine lv_iinc (v := v140) (lv' := [(4, .int v140), (3, .int p82_l5), (2, .int p53_l4), (0, .ref a0), (1, .int p38_l1), (5, .int p82_l5), (6, .int p82_l6)]) hx hb dX12_byLast_140 hl (k := 4) rfl e_v140.symm (by decide) rfl (fun ls hl => ?_)
                    have e_v140 : v140.toInt = p53_l4.toInt + 1 := ad_i e_v140 rfl li_1 (by omega) (by omega)
                    refine lv_goto (tgt := 53) hx hb dX12_byLast_143 (by decide) ?_
                    exact ih_53 _ _ _ _ (by omega) ⟨w82, p53_l4, p82_l5, v140, hw, hM, (by omega), (by omega), (by omega), (by omega), (by omega), (by omega), f_a0_X12_20, f_f0_M_said_3, (by omega), (by first | exact hW.skip e_v140 (x_v67_0.2.resolve_left (fun h => h c_70)) | exact hW.keep (by omega) | exact BW.new (x_v67_0.1.resolve_left c_70) (by omega) (by omega)), (lv_sub hl [3, 4, 2, 1, 0] rfl), rfl⟩
                  · simp only [fa_lt, fa_le, fa_eq, li_0] at c_122
                    refine lv_iload hx hb dX12_byLast_125 (lv_at hl 5 rfl) ?_
                    refine lv_iload_n hx hb dX12_byLast_127 rfl (lv_at hl 3 rfl) ?_
                    refine lv_icmp_le (tgt := 134) hx hb dX12_byLast_128 (by decide) (fun c_128 => ?_) (fun c_128 => ?_)
                    · simp only [fa_lt, fa_le, fa_eq] at c_128
                      refine lv_iload hx hb dX12_byLast_134 (lv_at hl 4 rfl) ?_
                      refine lv_istore_n (lv' := [(2, .int p53_l4), (0, .ref a0), (1, .int p38_l1), (3, .int p53_l3), (4, .int p53_l4), (5, .int p82_l5), (6, .int p82_l6)]) hx hb dX12_byLast_136 rfl hl (by decide) rfl (fun ls hl => ?_)
                      refine lv_iload hx hb dX12_byLast_137 (lv_at hl 5 rfl) ?_
                      refine lv_istore_n (lv' := [(3, .int p82_l5), (2, .int p53_l4), (0, .ref a0), (1, .int p38_l1), (4, .int p53_l4), (5, .int p82_l5), (6, .int p82_l6)]) hx hb dX12_byLast_139 rfl hl (by decide) rfl (fun ls hl => ?_)
                      obtain ⟨v140, e_v140⟩ : ∃ y : Int32, y = p53_l4 + 1 := ⟨_, rfl⟩
                      refine lv_iinc (v := v140) (lv' := [(4, .int v140), (3, .int p82_l5), (2, .int p53_l4), (0, .ref a0), (1, .int p38_l1), (5, .int p82_l5), (6, .int p82_l6)]) hx hb dX12_byLast_140 hl (k := 4) rfl e_v140.symm (by decide) rfl (fun ls hl => ?_)
                      have e_v140 : v140.toInt = p53_l4.toInt + 1 := ad_i e_v140 rfl li_1 (by omega) (by omega)
                      refine lv_goto (tgt := 53) hx hb dX12_byLast_143 (by decide) ?_
                      exact ih_53 _ _ _ _ (by omega) ⟨w82, p53_l4, p82_l5, v140, hw, hM, (by omega), (by omega), (by omega), (by omega), (by omega), (by omega), f_a0_X12_20, f_f0_M_said_3, (by omega), (by first | exact hW.skip e_v140 (x_v67_0.2.resolve_left (fun h => h c_70)) | exact hW.keep (by omega) | exact BW.new (x_v67_0.1.resolve_left c_70) (by omega) (by omega)), (lv_sub hl [3, 4, 2, 1, 0] rfl), rfl⟩
                    · simp only [fa_lt, fa_le, fa_eq] at c_128
                      refine lv_goto (tgt := 140) hx hb dX12_byLast_131 (by decide) ?_
                      obtain ⟨v140, e_v140⟩ : ∃ y : Int32, y = p53_l4 + 1 := ⟨_, rfl⟩
                      refine lv_iinc (v := v140) (lv' := [(4, .int v140), (0, .ref a0), (1, .int p38_l1), (2, .int p53_l2), (3, .int p53_l3), (5, .int p82_l5), (6, .int p82_l6)]) hx hb dX12_byLast_140 hl (k := 4) rfl e_v140.symm (by decide) rfl (fun ls hl => ?_)
                      have e_v140 : v140.toInt = p53_l4.toInt + 1 := ad_i e_v140 rfl li_1 (by omega) (by omega)
                      refine lv_goto (tgt := 53) hx hb dX12_byLast_143 (by decide) ?_
                      exact ih_53 _ _ _ _ (by omega) ⟨w82, p53_l2, p53_l3, v140, hw, hM, (by omega), (by omega), (by omega), (by omega), (by omega), (by omega), f_a0_X12_20, f_f0_M_said_3, (by omega), (by first | exact hW.skip e_v140 (x_v67_0.2.resolve_left (fun h => h c_70)) | exact hW.keep (by omega) | exact BW.new (x_v67_0.1.resolve_left c_70) (by omega) (by omega)), (lv_sub hl [1, 2, 3, 4, 0] rfl), rfl⟩
                · simp only [fa_lt, fa_le, fa_eq] at c_90
                  refine lv_iload hx hb dX12_byLast_93 (lv_at hl 5 rfl) ?_
                  refine lv_aload_n hx hb dX12_byLast_95 rfl (lv_at hl 0 rfl) ?_
                  refine lv_iload hx hb dX12_byLast_96 (lv_at hl 6 rfl) ?_
                  refine lv_iload_n hx hb dX12_byLast_98 rfl (lv_at hl 1 rfl) ?_
                  refine t_calli (va_runV (As := [.int p82_l6, .int p38_l1]) (rest := [.int p82_l5]) ⟨hx, hb, hml, hown, hts⟩ (t_X12_firstOf l dC dI tys κ B w82 hw.2.2.2.2 a0 k_a0 p82_l6 (by omega) (by omega) p38_l1 H.size) (cwV 2 hts (gUV tw_1640 tw_1642 ts_7_7 tw_13 tw_1643) rfl rfl rfl (by decide +kernel) ⟨(Nat.le_of_ble_eq_true rfl), (Nat.le_of_ble_eq_true rfl)⟩) ⟨cPre.blind, t_recv hw (ci := 12) k_a0 rfl rfl, cPre.use hw.2.1 hw.1 hw.2.2.1 hE⟩ rfl rfl hl.1 rfl (lv_room (Nat.le_of_ble_eq_true rfl)) dX12_byLast_99 ⟨(Nat.le_of_ble_eq_true rfl), (Nat.le_of_ble_eq_true rfl)⟩) hw hA (fun _ _ h => h.2.2.1) (fun v99 w_4 H locs hp hw => ?_)
                  obtain ⟨l_v99, h_v99, _, hm⟩ := hp
                  have hM := hM.trans hm (by decide) (by decide)
                  have f_a0_X12_20 := hm.1 _ _ _ _ f_a0_X12_20 (by decide)
                  have f_f0_M_said_3 := hm.elt k_f0 (by decide) f_f0_M_said_3
                  refine lv_iload hx hb dX12_byLast_102 (lv_at hl 4 rfl) ?_
                  have J112 : ∀ (H : Heap) (locs : List Loc) (ls : Array Slot) (w112 : va_W) (p112_s0 : Int32), tW (dC, dI) tys κ B A s w112 H locs → Sm [] [] κ ws w112 → 0 ≤ p112_s0.toInt → p112_s0.toInt ≤ 1 → fld w112 a0 12 20 (.ref f0) → elt w112 f0 (3 : Int32).toInt.toNat f1 → lv_has ls 7 [(0, .ref a0), (1, .int p38_l1), (2, .int p53_l2), (3, .int p53_l3), (4, .int p53_l4), (5, .int p82_l5), (6, .int p82_l6)] → W p l e (headSpec (ws_u yX12_byLast cX12_byLast 7 (some .int)) ({ frames := 2, cells := 0, slots := 0, locals := 47 })).room s m ([.ref a0] : List Value).toArray below meth c H locs 0 0 QQ (F0 m 112 ls [.int p112_s0, .int p82_l5]) := by
                    intro H locs ls w112 p112_s0 hw hM l_p112_s0 h_p112_s0 f_a0_X12_20 f_f0_M_said_3 hl
                    refine lv_iadd hx hb dX12_byLast_112 ?_
                    refine lv_topi (fun v112 e_v112 => ?_)
                    have l_v112 := i32_lo v112
                    have h_v112 := i32_hi v112
                    refine lv_istore (lv' := [(5, .int v112), (0, .ref a0), (1, .int p38_l1), (2, .int p53_l2), (3, .int p53_l3), (4, .int p53_l4), (6, .int p82_l6)]) hx hb dX12_byLast_113 hl (by decide) rfl (fun ls hl => ?_)
                    obtain ⟨v115, e_v115⟩ : ∃ y : Int32, y = p82_l6 + 1 := ⟨_, rfl⟩
                    refine lv_iinc (v := v115) (lv' := [(6, .int v115), (5, .int v112), (0, .ref a0), (1, .int p38_l1), (2, .int p53_l2), (3, .int p53_l3), (4, .int p53_l4)]) hx hb dX12_byLast_115 hl (k := 6) rfl e_v115.symm (by decide) rfl (fun ls hl => ?_)
                    have e_v115 : v115.toInt = p82_l6.toInt + 1 := ad_i e_v115 rfl li_1 (by omega) (by omega)
                    refine lv_goto (tgt := 82) hx hb dX12_byLast_118 (by decide) ?_
                    exact ih_82 _ _ _ _ (by omega) ⟨w112, v112, v115, hw, hM, (by omega), (by omega), (by omega), (by omega), f_a0_X12_20, f_f0_M_said_3, (lv_sub hl [2, 3, 4, 5, 6, 1, 0] rfl), rfl⟩
                  refine lv_icmp_ne (tgt := 111) hx hb dX12_byLast_104 (by decide) (fun c_104 => ?_) (fun c_104 => ?_)
                  · simp only [fa_lt, fa_le, fa_eq] at c_104
                    refine lv_iconst (v := 0) hx hb dX12_byLast_111 (by decide) ?_
                    exact J112 _ _ _ w_4 0 hw hM (by decide) (by decide) f_a0_X12_20 f_f0_M_said_3 (lv_sub hl [0, 1, 2, 3, 4, 5, 6] rfl)
                  · simp only [fa_lt, fa_le, fa_eq] at c_104
                    refine lv_iconst (v := 1) hx hb dX12_byLast_107 (by decide) ?_
                    refine lv_goto (tgt := 112) hx hb dX12_byLast_108 (by decide) ?_
                    exact J112 _ _ _ w_4 1 hw hM (by decide) (by decide) f_a0_X12_20 f_f0_M_said_3 (lv_sub hl [0, 1, 2, 3, 4, 5, 6] rfl)
              exact J82 _ _ _ _ ⟨w_3, 0, 0, hw, hM, (by decide), (by decide), (by decide), (by decide), f_a0_X12_20, f_f0_M_said_3, (lv_sub hl [2, 3, 4, 5, 6, 1, 0] rfl), rfl⟩
            · simp only [fa_lt, fa_le, fa_eq, li_0] at c_70
              refine lv_goto (tgt := 140) hx hb dX12_byLast_73 (by decide) ?_
              obtain ⟨v140, e_v140⟩ : ∃ y : Int32, y = p53_l4 + 1 := ⟨_, rfl⟩
              refine lv_iinc (v := v140) (lv' := [(4, .int v140), (0, .ref a0), (1, .int p38_l1), (2, .int p53_l2), (3, .int p53_l3)]) hx hb dX12_byLast_140 hl (k := 4) rfl e_v140.symm (by decide) rfl (fun ls hl => ?_)
              have e_v140 : v140.toInt = p53_l4.toInt + 1 := ad_i e_v140 rfl li_1 (by omega) (by omega)
              refine lv_goto (tgt := 53) hx hb dX12_byLast_143 (by decide) ?_
              exact ih_53 _ _ _ _ (by omega) ⟨w_3, p53_l2, p53_l3, v140, hw, hM, (by omega), (by omega), (by omega), (by omega), (by omega), (by omega), f_a0_X12_20, f_f0_M_said_3, (by omega), (by first | exact hW.skip e_v140 (x_v67_0.2.resolve_left (fun h => h c_70)) | exact hW.keep (by omega) | exact BW.new (x_v67_0.1.resolve_left c_70) (by omega) (by omega)), (lv_sub hl [1, 2, 3, 4, 0] rfl), rfl⟩
        exact J53 _ _ _ _ ⟨w_1, (-1), 0, 0, hw, hM, (by decide), (by decide), (by decide), (by decide), (by decide), (by decide), f_a0_X12_20, f_f0_M_said_3, (by have := li_m1; have := li_0; have := li_0; omega), BW.init, (lv_sub hl [3, 4, 2, 1, 0] rfl), rfl⟩
    refine lv_icmp_ge (tgt := 38) hx hb dX12_byLast_11 (by decide) (fun c_11 => ?_) (fun c_11 => ?_)
    · simp only [fa_lt, fa_le, fa_eq] at c_11
      exact J38 _ _ _ _ ⟨w4, p4_l1, p4_l2, hw, hM, (by omega), (by omega), (by omega), (by omega), f_a0_X12_20, f_f0_M_said_3, (by rw [show f1.toInt = p4_l2.toInt by omega]; exact hL), (lv_sub hl [0, 1, 2] rfl), rfl⟩
    · simp only [fa_lt, fa_le, fa_eq] at c_11
      refine lv_iload_n hx hb dX12_byLast_14 rfl (lv_at hl 1 rfl) ?_
      refine lv_aload_n hx hb dX12_byLast_15 rfl (lv_at hl 0 rfl) ?_
      refine lv_iload_n hx hb dX12_byLast_16 rfl (lv_at hl 2 rfl) ?_
      refine t_calli (va_runV (As := [.int p4_l2]) (rest := [.int p4_l1]) ⟨hx, hb, hml, hown, hts⟩ (t_X12_isSound l dC dI tys κ B w4 hw.2.2.2.2 a0 k_a0 p4_l2 H.size) (cwV 1 hts (gUV tw_1517 tw_1519 ts_6_3 tw_13 tw_1520) rfl rfl rfl (by decide +kernel) ⟨(Nat.le_of_ble_eq_true rfl), (Nat.le_of_ble_eq_true rfl)⟩) ⟨cPre.blind, t_recv hw (ci := 12) k_a0 rfl rfl, cPre.use hw.2.1 hw.1 hw.2.2.1 hE⟩ rfl rfl hl.1 rfl (lv_room (Nat.le_of_ble_eq_true rfl)) dX12_byLast_17 ⟨(Nat.le_of_ble_eq_true rfl), (Nat.le_of_ble_eq_true rfl)⟩) hw hA (fun _ _ h => h.2.2.1) (fun v17 w_5 H locs hp hw => ?_)
      obtain ⟨l_v17, h_v17, _, hm, x_v17_0⟩ := hp
      have hM := hM.trans hm (by decide) (by decide)
      have f_a0_X12_20 := hm.1 _ _ _ _ f_a0_X12_20 (by decide)
      have f_f0_M_said_3 := hm.elt k_f0 (by decide) f_f0_M_said_3
      refine lv_if_eq (tgt := 29) hx hb dX12_byLast_20 (by decide) (fun c_20 => ?_) (fun c_20 => ?_)
      · simp only [fa_lt, fa_le, fa_eq, li_0] at c_20
        refine lv_iconst (v := 0) hx hb dX12_byLast_29 (by decide) ?_
        refine lv_ior hx hb dX12_byLast_30 ?_
        refine lv_topi (fun v30 e_v30 => ?_)
        have l_v30 := i32_lo v30
        have h_v30 := i32_hi v30
        refine lv_istore_n (lv' := [(1, .int v30), (0, .ref a0), (2, .int p4_l2)]) hx hb dX12_byLast_31 rfl hl (by decide) rfl (fun ls hl => ?_)
        obtain ⟨v32, e_v32⟩ : ∃ y : Int32, y = p4_l2 + 1 := ⟨_, rfl⟩
        refine lv_iinc (v := v32) (lv' := [(2, .int v32), (1, .int v30), (0, .ref a0)]) hx hb dX12_byLast_32 hl (k := 2) rfl e_v32.symm (by decide) rfl (fun ls hl => ?_)
        have e_v32 : v32.toInt = p4_l2.toInt + 1 := ad_i e_v32 rfl li_1 (by omega) (by omega)
        refine lv_goto (tgt := 4) hx hb dX12_byLast_35 (by decide) ?_
        exact ih_4 _ _ _ _ (by omega) ⟨w_5, v30, v32, hw, hM, (by omega), (by omega), (by omega), (by omega), f_a0_X12_20, f_f0_M_said_3, (by omega), (by rw [e_v32]; first | exact ⟨(pw_or e_v25 e_v30 (by omega) (by omega) hL.1 hL.2).2, (pw_or e_v25 e_v30 (by omega) (by omega) hL.1 hL.2).1⟩ | (rw [or0 e_v30]; exact ⟨hL.1, pw_or0 (by omega) (by omega) hL.2⟩)), (lv_sub hl [2, 1, 0] rfl), rfl⟩
      · simp only [fa_lt, fa_le, fa_eq, li_0] at c_20
        refine lv_iconst (v := 1) hx hb dX12_byLast_23 (by decide) ?_
        refine lv_iload_n hx hb dX12_byLast_24 rfl (lv_at hl 2 rfl) ?_
        refine lv_ishl hx hb dX12_byLast_25 ?_
        refine lv_topi (fun v25 e_v25 => ?_)
        have ⟨l_v25, h_v25⟩ := sh_i e_v25 (by omega) (by omega)
        refine lv_goto (tgt := 30) hx hb dX12_byLast_26 (by decide) ?_
        refine lv_ior hx hb dX12_byLast_30 ?_
        refine lv_topi (fun v30 e_v30 => ?_)
        have l_v30 := i32_lo v30
        have h_v30 := i32_hi v30
        refine lv_istore_n (lv' := [(1, .int v30), (0, .ref a0), (2, .int p4_l2)]) hx hb dX12_byLast_31 rfl hl (by decide) rfl (fun ls hl => ?_)
        obtain ⟨v32, e_v32⟩ : ∃ y : Int32, y = p4_l2 + 1 := ⟨_, rfl⟩
        refine lv_iinc (v := v32) (lv' := [(2, .int v32), (1, .int v30), (0, .ref a0)]) hx hb dX12_byLast_32 hl (k := 2) rfl e_v32.symm (by decide) rfl (fun ls hl => ?_)
        have e_v32 : v32.toInt = p4_l2.toInt + 1 := ad_i e_v32 rfl li_1 (by omega) (by omega)
        refine lv_goto (tgt := 4) hx hb dX12_byLast_35 (by decide) ?_
        exact ih_4 _ _ _ _ (by omega) ⟨w_5, v30, v32, hw, hM, (by omega), (by omega), (by omega), (by omega), f_a0_X12_20, f_f0_M_said_3, (by omega), (by rw [e_v32]; first | exact ⟨(pw_or e_v25 e_v30 (by omega) (by omega) hL.1 hL.2).2, (pw_or e_v25 e_v30 (by omega) (by omega) hL.1 hL.2).1⟩ | (rw [or0 e_v30]; exact ⟨hL.1, pw_or0 (by omega) (by omega) hL.2⟩)), (lv_sub hl [2, 1, 0] rfl), rfl⟩
  exact J4 _ _ _ _ ⟨ws, 0, 0, hw, hM, (by decide), (by decide), (by decide), (by decide), f_a0_X12_20, f_f0_M_said_3, (by have := li_0; have := li_0; omega), (by decide), (lv_sub hl [2, 1, 0] rfl), rfl⟩
