theorem ts_2_1 : Cond.selects "BoyBishop$Poll" ⟨"BoyBishop$Poll", "pointsOf", "(I)I"⟩ ⟨"BoyBishop$Poll", "pointsOf", "(I)I"⟩ ∈ gT := gT_in (List.mem_append_left _ (List.mem_map.mpr ⟨(⟨"BoyBishop$Poll", "pointsOf", "(I)I"⟩, 8), (List.mem_append_right _ (List.mem_append_right _ (List.mem_append_left _ (List.mem_of_getElem? (i := 1) rfl)))), rfl⟩)) rfl
theorem ts_2_4 : Cond.selects "BoyBishop$Poll" ⟨"BoyBishop$Poll", "fewestFirstVotes", "(I)I"⟩ ⟨"BoyBishop$Poll", "fewestFirstVotes", "(I)I"⟩ ∈ gT := gT_in (List.mem_append_left _ (List.mem_map.mpr ⟨(⟨"BoyBishop$Poll", "fewestFirstVotes", "(I)I"⟩, 8), (List.mem_append_right _ (List.mem_append_right _ (List.mem_append_left _ (List.mem_of_getElem? (i := 4) rfl)))), rfl⟩)) rfl
theorem ts_2_5 : Cond.selects "BoyBishop$Poll" ⟨"BoyBishop$Poll", "isRest", "(III)Z"⟩ ⟨"BoyBishop$Poll", "isRest", "(III)Z"⟩ ∈ gT := gT_in (List.mem_append_left _ (List.mem_map.mpr ⟨(⟨"BoyBishop$Poll", "isRest", "(III)Z"⟩, 8), (List.mem_append_right _ (List.mem_append_right _ (List.mem_append_left _ (List.mem_of_getElem? (i := 5) rfl)))), rfl⟩)) rfl
theorem ts_2_6 : Cond.selects "BoyBishop$Poll" ⟨"BoyBishop$Poll", "gain", "(IIII)I"⟩ ⟨"BoyBishop$Poll", "gain", "(IIII)I"⟩ ∈ gT := gT_in (List.mem_append_left _ (List.mem_map.mpr ⟨(⟨"BoyBishop$Poll", "gain", "(IIII)I"⟩, 8), (List.mem_append_right _ (List.mem_append_right _ (List.mem_append_left _ (List.mem_of_getElem? (i := 6) rfl)))), rfl⟩)) rfl
theorem tw_295 : (Jvm.Cond.fieldLink "BoyBishop" (314 : Nat) "BoyBishop$Whole" "noteDay" "[I") ∈ gT := gT_in (List.mem_append_right _ (List.mem_append_right _ (List.mem_append_left _ (List.mem_of_getElem? (i := 55) rfl)))) rfl
theorem tw_298 : (Jvm.Cond.fieldLink "BoyBishop" (317 : Nat) "BoyBishop$Whole" "noteBishop" "[I") ∈ gT := gT_in (List.mem_append_right _ (List.mem_append_right _ (List.mem_append_left _ (List.mem_of_getElem? (i := 58) rfl)))) rfl
theorem tw_355 : (Jvm.Cond.fieldLink "BoyBishop$Poll" (27 : Nat) "BoyBishop$Poll" "chosenByShares" "[I") ∈ gT := gT_in (List.mem_append_right _ (List.mem_append_right _ (List.mem_append_left _ (List.mem_of_getElem? (i := 115) rfl)))) rfl
theorem tw_908 : (Jvm.Cond.methodLink "BoyBishop" (261 : Nat) ({ cls := "BoyBishop$Poll", name := "mostPoints", desc := "()I" } : Jvm.MethodName)) ∈ gT := gT_in (List.mem_append_right _ (List.mem_append_right _ (List.mem_append_right _ (List.mem_append_right _ (List.mem_append_left _ (List.mem_of_getElem? (i := 188) rfl)))))) rfl
theorem tw_909 : (Jvm.Cond.instanceMethod ({ cls := "BoyBishop$Poll", name := "mostPoints", desc := "()I" } : Jvm.MethodName)) ∈ gT := gT_in (List.mem_append_right _ (List.mem_append_right _ (List.mem_append_right _ (List.mem_append_right _ (List.mem_append_left _ (List.mem_of_getElem? (i := 189) rfl)))))) rfl
theorem tw_910 : (Jvm.Cond.selects "BoyBishop$Poll" ({ cls := "BoyBishop$Poll", name := "mostPoints", desc := "()I" } : Jvm.MethodName) ({ cls := "BoyBishop$Poll", name := "mostPoints", desc := "()I" } : Jvm.MethodName)) ∈ gT := gT_in (List.mem_append_right _ (List.mem_append_right _ (List.mem_append_right _ (List.mem_append_right _ (List.mem_append_left _ (List.mem_of_getElem? (i := 190) rfl)))))) rfl
theorem tw_911 : (Jvm.Cond.code ({ cls := "BoyBishop$Poll", name := "mostPoints", desc := "()I" } : Jvm.MethodName) prog_7_method_8_code (4 : Nat) (Option.some Jvm.ClassFile.FieldType.int)) ∈ gT := gT_in (List.mem_append_right _ (List.mem_append_right _ (List.mem_append_right _ (List.mem_append_right _ (List.mem_append_left _ (List.mem_of_getElem? (i := 191) rfl)))))) rfl
theorem tw_912 : (Jvm.Cond.methodLink "BoyBishop$Poll" (104 : Nat) ({ cls := "BoyBishop$Poll", name := "pointsOf", desc := "(I)I" } : Jvm.MethodName)) ∈ gT := gT_in (List.mem_append_right _ (List.mem_append_right _ (List.mem_append_right _ (List.mem_append_right _ (List.mem_append_left _ (List.mem_of_getElem? (i := 192) rfl)))))) rfl
theorem tw_914 : (Jvm.Cond.instanceMethod ({ cls := "BoyBishop$Poll", name := "pointsOf", desc := "(I)I" } : Jvm.MethodName)) ∈ gT := gT_in (List.mem_append_right _ (List.mem_append_right _ (List.mem_append_right _ (List.mem_append_right _ (List.mem_append_left _ (List.mem_of_getElem? (i := 194) rfl)))))) rfl
theorem tw_915 : (Jvm.Cond.code ({ cls := "BoyBishop$Poll", name := "pointsOf", desc := "(I)I" } : Jvm.MethodName) prog_7_method_9_code (4 : Nat) (Option.some Jvm.ClassFile.FieldType.int)) ∈ gT := gT_in (List.mem_append_right _ (List.mem_append_right _ (List.mem_append_right _ (List.mem_append_right _ (List.mem_append_left _ (List.mem_of_getElem? (i := 195) rfl)))))) rfl
theorem tw_920 : (Jvm.Cond.methodLink "BoyBishop" (265 : Nat) ({ cls := "BoyBishop$Poll", name := "aheadOfEach", desc := "()I" } : Jvm.MethodName)) ∈ gT := gT_in (List.mem_append_right _ (List.mem_append_right _ (List.mem_append_right _ (List.mem_append_right _ (List.mem_append_left _ (List.mem_of_getElem? (i := 200) rfl)))))) rfl
theorem tw_921 : (Jvm.Cond.instanceMethod ({ cls := "BoyBishop$Poll", name := "aheadOfEach", desc := "()I" } : Jvm.MethodName)) ∈ gT := gT_in (List.mem_append_right _ (List.mem_append_right _ (List.mem_append_right _ (List.mem_append_right _ (List.mem_append_left _ (List.mem_of_getElem? (i := 201) rfl)))))) rfl
theorem tw_922 : (Jvm.Cond.selects "BoyBishop$Poll" ({ cls := "BoyBishop$Poll", name := "aheadOfEach", desc := "()I" } : Jvm.MethodName) ({ cls := "BoyBishop$Poll", name := "aheadOfEach", desc := "()I" } : Jvm.MethodName)) ∈ gT := gT_in (List.mem_append_right _ (List.mem_append_right _ (List.mem_append_right _ (List.mem_append_right _ (List.mem_append_left _ (List.mem_of_getElem? (i := 202) rfl)))))) rfl
theorem tw_923 : (Jvm.Cond.code ({ cls := "BoyBishop$Poll", name := "aheadOfEach", desc := "()I" } : Jvm.MethodName) prog_7_method_11_code (2 : Nat) (Option.some Jvm.ClassFile.FieldType.int)) ∈ gT := gT_in (List.mem_append_right _ (List.mem_append_right _ (List.mem_append_right _ (List.mem_append_right _ (List.mem_append_left _ (List.mem_of_getElem? (i := 203) rfl)))))) rfl
theorem tw_928 : (Jvm.Cond.methodLink "BoyBishop" (268 : Nat) ({ cls := "BoyBishop$Poll", name := "lastLeft", desc := "()I" } : Jvm.MethodName)) ∈ gT := gT_in (List.mem_append_right _ (List.mem_append_right _ (List.mem_append_right _ (List.mem_append_right _ (List.mem_append_left _ (List.mem_of_getElem? (i := 208) rfl)))))) rfl
theorem tw_929 : (Jvm.Cond.instanceMethod ({ cls := "BoyBishop$Poll", name := "lastLeft", desc := "()I" } : Jvm.MethodName)) ∈ gT := gT_in (List.mem_append_right _ (List.mem_append_right _ (List.mem_append_right _ (List.mem_append_right _ (List.mem_append_left _ (List.mem_of_getElem? (i := 209) rfl)))))) rfl
theorem tw_930 : (Jvm.Cond.selects "BoyBishop$Poll" ({ cls := "BoyBishop$Poll", name := "lastLeft", desc := "()I" } : Jvm.MethodName) ({ cls := "BoyBishop$Poll", name := "lastLeft", desc := "()I" } : Jvm.MethodName)) ∈ gT := gT_in (List.mem_append_right _ (List.mem_append_right _ (List.mem_append_right _ (List.mem_append_right _ (List.mem_append_left _ (List.mem_of_getElem? (i := 210) rfl)))))) rfl
theorem tw_931 : (Jvm.Cond.code ({ cls := "BoyBishop$Poll", name := "lastLeft", desc := "()I" } : Jvm.MethodName) prog_7_method_13_code (3 : Nat) (Option.some Jvm.ClassFile.FieldType.int)) ∈ gT := gT_in (List.mem_append_right _ (List.mem_append_right _ (List.mem_append_right _ (List.mem_append_right _ (List.mem_append_left _ (List.mem_of_getElem? (i := 211) rfl)))))) rfl
theorem tw_932 : (Jvm.Cond.methodLink "BoyBishop$Poll" (114 : Nat) ({ cls := "BoyBishop$Poll", name := "fewestFirstVotes", desc := "(I)I" } : Jvm.MethodName)) ∈ gT := gT_in (List.mem_append_right _ (List.mem_append_right _ (List.mem_append_right _ (List.mem_append_right _ (List.mem_append_left _ (List.mem_of_getElem? (i := 212) rfl)))))) rfl
theorem tw_934 : (Jvm.Cond.instanceMethod ({ cls := "BoyBishop$Poll", name := "fewestFirstVotes", desc := "(I)I" } : Jvm.MethodName)) ∈ gT := gT_in (List.mem_append_right _ (List.mem_append_right _ (List.mem_append_right _ (List.mem_append_right _ (List.mem_append_left _ (List.mem_of_getElem? (i := 214) rfl)))))) rfl
theorem tw_935 : (Jvm.Cond.code ({ cls := "BoyBishop$Poll", name := "fewestFirstVotes", desc := "(I)I" } : Jvm.MethodName) prog_7_method_14_code (4 : Nat) (Option.some Jvm.ClassFile.FieldType.int)) ∈ gT := gT_in (List.mem_append_right _ (List.mem_append_right _ (List.mem_append_right _ (List.mem_append_right _ (List.mem_append_left _ (List.mem_of_getElem? (i := 215) rfl)))))) rfl
theorem tw_963 : (Jvm.Cond.methodLink "BoyBishop$Poll" (126 : Nat) ({ cls := "BoyBishop$Poll", name := "isRest", desc := "(III)Z" } : Jvm.MethodName)) ∈ gT := gT_in (List.mem_append_right _ (List.mem_append_right _ (List.mem_append_right _ (List.mem_append_right _ (List.mem_append_right _ (List.mem_append_left _ (List.mem_of_getElem? (i := 3) rfl))))))) rfl
theorem tw_965 : (Jvm.Cond.instanceMethod ({ cls := "BoyBishop$Poll", name := "isRest", desc := "(III)Z" } : Jvm.MethodName)) ∈ gT := gT_in (List.mem_append_right _ (List.mem_append_right _ (List.mem_append_right _ (List.mem_append_right _ (List.mem_append_right _ (List.mem_append_left _ (List.mem_of_getElem? (i := 5) rfl))))))) rfl
theorem tw_966 : (Jvm.Cond.code ({ cls := "BoyBishop$Poll", name := "isRest", desc := "(III)Z" } : Jvm.MethodName) prog_7_method_19_code (9 : Nat) (Option.some Jvm.ClassFile.FieldType.boolean)) ∈ gT := gT_in (List.mem_append_right _ (List.mem_append_right _ (List.mem_append_right _ (List.mem_append_right _ (List.mem_append_right _ (List.mem_append_left _ (List.mem_of_getElem? (i := 6) rfl))))))) rfl
theorem tw_967 : (Jvm.Cond.methodLink "BoyBishop$Poll" (129 : Nat) ({ cls := "BoyBishop$Poll", name := "gain", desc := "(IIII)I" } : Jvm.MethodName)) ∈ gT := gT_in (List.mem_append_right _ (List.mem_append_right _ (List.mem_append_right _ (List.mem_append_right _ (List.mem_append_right _ (List.mem_append_left _ (List.mem_of_getElem? (i := 7) rfl))))))) rfl
theorem tw_969 : (Jvm.Cond.instanceMethod ({ cls := "BoyBishop$Poll", name := "gain", desc := "(IIII)I" } : Jvm.MethodName)) ∈ gT := gT_in (List.mem_append_right _ (List.mem_append_right _ (List.mem_append_right _ (List.mem_append_right _ (List.mem_append_right _ (List.mem_append_left _ (List.mem_of_getElem? (i := 9) rfl))))))) rfl
theorem tw_970 : (Jvm.Cond.code ({ cls := "BoyBishop$Poll", name := "gain", desc := "(IIII)I" } : Jvm.MethodName) prog_7_method_20_code (5 : Nat) (Option.some Jvm.ClassFile.FieldType.int)) ∈ gT := gT_in (List.mem_append_right _ (List.mem_append_right _ (List.mem_append_right _ (List.mem_append_right _ (List.mem_append_right _ (List.mem_append_left _ (List.mem_of_getElem? (i := 10) rfl))))))) rfl
theorem dX11_method_0 : decode cX11_method 0 = .ok (.aload_n 0, 1) := by decide +kernel
theorem dX11_method_1 : decode cX11_method 1 = .ok (.getfield 45, 3) := by decide +kernel
theorem dX11_method_4 : decode cX11_method 4 = .ok (.getfield 53, 3) := by decide +kernel
theorem dX11_method_7 : decode cX11_method 7 = .ok (.getfield 194, 3) := by decide +kernel
theorem dX11_method_10 : decode cX11_method 10 = .ok (.ifCond .eq 12, 3) := by decide +kernel
theorem dX11_method_13 : decode cX11_method 13 = .ok (.iload_n 1, 1) := by decide +kernel
theorem dX11_method_14 : decode cX11_method 14 = .ok (.ifCond .lt 8, 3) := by decide +kernel
theorem dX11_method_17 : decode cX11_method 17 = .ok (.iload_n 1, 1) := by decide +kernel
theorem dX11_method_18 : decode cX11_method 18 = .ok (.iconst 2, 1) := by decide +kernel
theorem dX11_method_19 : decode cX11_method 19 = .ok (.if_icmp .le 6, 3) := by decide +kernel
theorem dX11_method_22 : decode cX11_method 22 = .ok (.bipush (-2), 2) := by decide +kernel
theorem dX11_method_24 : decode cX11_method 24 = .ok (.ireturn, 1) := by decide +kernel
theorem dX11_method_25 : decode cX11_method 25 = .ok (.aload_n 0, 1) := by decide +kernel
theorem dX11_method_26 : decode cX11_method 26 = .ok (.getfield 67, 3) := by decide +kernel
theorem dX11_method_29 : decode cX11_method 29 = .ok (.aload_n 0, 1) := by decide +kernel
theorem dX11_method_30 : decode cX11_method 30 = .ok (.getfield 45, 3) := by decide +kernel
theorem dX11_method_33 : decode cX11_method 33 = .ok (.getfield 53, 3) := by decide +kernel
theorem dX11_method_36 : decode cX11_method 36 = .ok (.aload_n 0, 1) := by decide +kernel
theorem dX11_method_37 : decode cX11_method 37 = .ok (.getfield 45, 3) := by decide +kernel
theorem dX11_method_40 : decode cX11_method 40 = .ok (.getfield 115, 3) := by decide +kernel
theorem dX11_method_43 : decode cX11_method 43 = .ok (.aload_n 0, 1) := by decide +kernel
theorem dX11_method_44 : decode cX11_method 44 = .ok (.invokevirtual 205, 3) := by decide +kernel
theorem dX11_method_47 : decode cX11_method 47 = .ok (.invokevirtual 248, 3) := by decide +kernel
theorem dX11_method_50 : decode cX11_method 50 = .ok (.iload_n 1, 1) := by decide +kernel
theorem dX11_method_51 : decode cX11_method 51 = .ok (.lookupswitch 41 #[(0, 25), (1, 33)], 25) := by decide +kernel
theorem dX11_method_76 : decode cX11_method 76 = .ok (.aload_n 0, 1) := by decide +kernel
theorem dX11_method_77 : decode cX11_method 77 = .ok (.getfield 67, 3) := by decide +kernel
theorem dX11_method_80 : decode cX11_method 80 = .ok (.invokevirtual 261, 3) := by decide +kernel
theorem dX11_method_83 : decode cX11_method 83 = .ok (.ireturn, 1) := by decide +kernel
theorem dX11_method_84 : decode cX11_method 84 = .ok (.aload_n 0, 1) := by decide +kernel
theorem dX11_method_85 : decode cX11_method 85 = .ok (.getfield 67, 3) := by decide +kernel
theorem dX11_method_88 : decode cX11_method 88 = .ok (.invokevirtual 265, 3) := by decide +kernel
theorem dX11_method_91 : decode cX11_method 91 = .ok (.ireturn, 1) := by decide +kernel
theorem dX11_method_92 : decode cX11_method 92 = .ok (.aload_n 0, 1) := by decide +kernel
theorem dX11_method_93 : decode cX11_method 93 = .ok (.getfield 67, 3) := by decide +kernel
theorem dX11_method_96 : decode cX11_method 96 = .ok (.invokevirtual 268, 3) := by decide +kernel
theorem dX11_method_99 : decode cX11_method 99 = .ok (.ireturn, 1) := by decide +kernel
theorem dX11_note_0 : decode cX11_note 0 = .ok (.iload_n 1, 1) := by decide +kernel
theorem dX11_note_1 : decode cX11_note 1 = .ok (.iconst (-1), 1) := by decide +kernel
theorem dX11_note_2 : decode cX11_note 2 = .ok (.if_icmp .ne 13, 3) := by decide +kernel
theorem dX11_note_5 : decode cX11_note 5 = .ok (.aload_n 0, 1) := by decide +kernel
theorem dX11_note_6 : decode cX11_note 6 = .ok (.getfield 45, 3) := by decide +kernel
theorem dX11_note_9 : decode cX11_note 9 = .ok (.iconst 0, 1) := by decide +kernel
theorem dX11_note_10 : decode cX11_note 10 = .ok (.putfield 121, 3) := by decide +kernel
theorem dX11_note_13 : decode cX11_note 13 = .ok (.iconst 0, 1) := by decide +kernel
theorem dX11_note_14 : decode cX11_note 14 = .ok (.ireturn, 1) := by decide +kernel
theorem dX11_note_15 : decode cX11_note 15 = .ok (.aload_n 0, 1) := by decide +kernel
theorem dX11_note_16 : decode cX11_note 16 = .ok (.getfield 45, 3) := by decide +kernel
theorem dX11_note_19 : decode cX11_note 19 = .ok (.getfield 53, 3) := by decide +kernel
theorem dX11_note_22 : decode cX11_note 22 = .ok (.getfield 194, 3) := by decide +kernel
theorem dX11_note_25 : decode cX11_note 25 = .ok (.ifCond .eq 38, 3) := by decide +kernel
theorem dX11_note_28 : decode cX11_note 28 = .ok (.iload_n 1, 1) := by decide +kernel
theorem dX11_note_29 : decode cX11_note 29 = .ok (.ifCond .lt 34, 3) := by decide +kernel
theorem dX11_note_32 : decode cX11_note 32 = .ok (.iload_n 1, 1) := by decide +kernel
theorem dX11_note_33 : decode cX11_note 33 = .ok (.bipush 60, 2) := by decide +kernel
theorem dX11_note_35 : decode cX11_note 35 = .ok (.if_icmp .gt 28, 3) := by decide +kernel
theorem dX11_note_38 : decode cX11_note 38 = .ok (.iload_n 2, 1) := by decide +kernel
theorem dX11_note_39 : decode cX11_note 39 = .ok (.iconst (-1), 1) := by decide +kernel
theorem dX11_note_40 : decode cX11_note 40 = .ok (.if_icmp .eq 11, 3) := by decide +kernel
theorem dX11_note_43 : decode cX11_note 43 = .ok (.aload_n 0, 1) := by decide +kernel
theorem dX11_note_44 : decode cX11_note 44 = .ok (.iload_n 2, 1) := by decide +kernel
theorem dX11_note_45 : decode cX11_note 45 = .ok (.invokevirtual 139, 3) := by decide +kernel
theorem dX11_note_48 : decode cX11_note 48 = .ok (.ifCond .eq 15, 3) := by decide +kernel
theorem dX11_note_51 : decode cX11_note 51 = .ok (.aload_n 0, 1) := by decide +kernel
theorem dX11_note_52 : decode cX11_note 52 = .ok (.getfield 45, 3) := by decide +kernel
theorem dX11_note_55 : decode cX11_note 55 = .ok (.getfield 121, 3) := by decide +kernel
theorem dX11_note_58 : decode cX11_note 58 = .ok (.bipush 10, 2) := by decide +kernel
theorem dX11_note_60 : decode cX11_note 60 = .ok (.if_icmp .lt 6, 3) := by decide +kernel
theorem dX11_note_63 : decode cX11_note 63 = .ok (.bipush (-2), 2) := by decide +kernel
theorem dX11_note_65 : decode cX11_note 65 = .ok (.ireturn, 1) := by decide +kernel
theorem dX11_note_66 : decode cX11_note 66 = .ok (.aload_n 0, 1) := by decide +kernel
theorem dX11_note_67 : decode cX11_note 67 = .ok (.getfield 45, 3) := by decide +kernel
theorem dX11_note_70 : decode cX11_note 70 = .ok (.getfield 314, 3) := by decide +kernel
theorem dX11_note_73 : decode cX11_note 73 = .ok (.aload_n 0, 1) := by decide +kernel
theorem dX11_note_74 : decode cX11_note 74 = .ok (.getfield 45, 3) := by decide +kernel
theorem dX11_note_77 : decode cX11_note 77 = .ok (.getfield 121, 3) := by decide +kernel
theorem dX11_note_80 : decode cX11_note 80 = .ok (.iload_n 1, 1) := by decide +kernel
theorem dX11_note_81 : decode cX11_note 81 = .ok (.iastore, 1) := by decide +kernel
theorem dX11_note_82 : decode cX11_note 82 = .ok (.aload_n 0, 1) := by decide +kernel
theorem dX11_note_83 : decode cX11_note 83 = .ok (.getfield 45, 3) := by decide +kernel
theorem dX11_note_86 : decode cX11_note 86 = .ok (.getfield 317, 3) := by decide +kernel
theorem dX11_note_89 : decode cX11_note 89 = .ok (.aload_n 0, 1) := by decide +kernel
theorem dX11_note_90 : decode cX11_note 90 = .ok (.getfield 45, 3) := by decide +kernel
theorem dX11_note_93 : decode cX11_note 93 = .ok (.getfield 121, 3) := by decide +kernel
theorem dX11_note_96 : decode cX11_note 96 = .ok (.iload_n 2, 1) := by decide +kernel
theorem dX11_note_97 : decode cX11_note 97 = .ok (.iastore, 1) := by decide +kernel
theorem dX11_note_98 : decode cX11_note 98 = .ok (.aload_n 0, 1) := by decide +kernel
theorem dX11_note_99 : decode cX11_note 99 = .ok (.getfield 45, 3) := by decide +kernel
theorem dX11_note_102 : decode cX11_note 102 = .ok (.dup, 1) := by decide +kernel
theorem dX11_note_103 : decode cX11_note 103 = .ok (.getfield 121, 3) := by decide +kernel
theorem dX11_note_106 : decode cX11_note 106 = .ok (.iconst 1, 1) := by decide +kernel
theorem dX11_note_107 : decode cX11_note 107 = .ok (.iadd, 1) := by decide +kernel
theorem dX11_note_108 : decode cX11_note 108 = .ok (.putfield 121, 3) := by decide +kernel
theorem dX11_note_111 : decode cX11_note 111 = .ok (.aload_n 0, 1) := by decide +kernel
theorem dX11_note_112 : decode cX11_note 112 = .ok (.getfield 45, 3) := by decide +kernel
theorem dX11_note_115 : decode cX11_note 115 = .ok (.getfield 121, 3) := by decide +kernel
theorem dX11_note_118 : decode cX11_note 118 = .ok (.ireturn, 1) := by decide +kernel
theorem dX11_promise_0 : decode cX11_promise 0 = .ok (.aload_n 0, 1) := by decide +kernel
theorem dX11_promise_1 : decode cX11_promise 1 = .ok (.iload_n 1, 1) := by decide +kernel
theorem dX11_promise_2 : decode cX11_promise 2 = .ok (.invokevirtual 139, 3) := by decide +kernel
theorem dX11_promise_5 : decode cX11_promise 5 = .ok (.ifCond .eq 13, 3) := by decide +kernel
theorem dX11_promise_8 : decode cX11_promise 8 = .ok (.iload_n 2, 1) := by decide +kernel
theorem dX11_promise_9 : decode cX11_promise 9 = .ok (.ifCond .lt 9, 3) := by decide +kernel
theorem dX11_promise_12 : decode cX11_promise 12 = .ok (.iload_n 2, 1) := by decide +kernel
theorem dX11_promise_13 : decode cX11_promise 13 = .ok (.bipush 20, 2) := by decide +kernel
theorem dX11_promise_15 : decode cX11_promise 15 = .ok (.if_icmp .le 5, 3) := by decide +kernel
theorem dX11_promise_18 : decode cX11_promise 18 = .ok (.iconst (-1), 1) := by decide +kernel
theorem dX11_promise_19 : decode cX11_promise 19 = .ok (.ireturn, 1) := by decide +kernel
theorem dX11_promise_20 : decode cX11_promise 20 = .ok (.aload_n 0, 1) := by decide +kernel
theorem dX11_promise_21 : decode cX11_promise 21 = .ok (.getfield 45, 3) := by decide +kernel
theorem dX11_promise_24 : decode cX11_promise 24 = .ok (.getfield 115, 3) := by decide +kernel
theorem dX11_promise_27 : decode cX11_promise 27 = .ok (.getfield 146, 3) := by decide +kernel
theorem dX11_promise_30 : decode cX11_promise 30 = .ok (.iload_n 1, 1) := by decide +kernel
theorem dX11_promise_31 : decode cX11_promise 31 = .ok (.iaload, 1) := by decide +kernel
theorem dX11_promise_32 : decode cX11_promise 32 = .ok (.istore_n 3, 1) := by decide +kernel
theorem dX11_promise_33 : decode cX11_promise 33 = .ok (.iload_n 2, 1) := by decide +kernel
theorem dX11_promise_34 : decode cX11_promise 34 = .ok (.iload_n 3, 1) := by decide +kernel
theorem dX11_promise_35 : decode cX11_promise 35 = .ok (.if_icmp .ne 5, 3) := by decide +kernel
theorem dX11_promise_38 : decode cX11_promise 38 = .ok (.iconst (-1), 1) := by decide +kernel
theorem dX11_promise_39 : decode cX11_promise 39 = .ok (.ireturn, 1) := by decide +kernel
theorem dX11_promise_40 : decode cX11_promise 40 = .ok (.aload_n 0, 1) := by decide +kernel
theorem dX11_promise_41 : decode cX11_promise 41 = .ok (.getfield 60, 3) := by decide +kernel
theorem dX11_promise_44 : decode cX11_promise 44 = .ok (.aload_n 0, 1) := by decide +kernel
theorem dX11_promise_45 : decode cX11_promise 45 = .ok (.getfield 45, 3) := by decide +kernel
theorem dX11_promise_48 : decode cX11_promise 48 = .ok (.getfield 115, 3) := by decide +kernel
theorem dX11_promise_51 : decode cX11_promise 51 = .ok (.invokevirtual 201, 3) := by decide +kernel
theorem dX11_promise_54 : decode cX11_promise 54 = .ok (.aload_n 0, 1) := by decide +kernel
theorem dX11_promise_55 : decode cX11_promise 55 = .ok (.getfield 45, 3) := by decide +kernel
theorem dX11_promise_58 : decode cX11_promise 58 = .ok (.getfield 115, 3) := by decide +kernel
theorem dX11_promise_61 : decode cX11_promise 61 = .ok (.getfield 146, 3) := by decide +kernel
theorem dX11_promise_64 : decode cX11_promise 64 = .ok (.iload_n 1, 1) := by decide +kernel
theorem dX11_promise_65 : decode cX11_promise 65 = .ok (.iload_n 2, 1) := by decide +kernel
theorem dX11_promise_66 : decode cX11_promise 66 = .ok (.iastore, 1) := by decide +kernel
theorem dX11_promise_67 : decode cX11_promise 67 = .ok (.iload_n 3, 1) := by decide +kernel
theorem dX11_promise_68 : decode cX11_promise 68 = .ok (.ireturn, 1) := by decide +kernel
theorem dX5_countRests_0 : decode cX5_countRests 0 = .ok (.iconst 0, 1) := by decide +kernel
theorem dX5_countRests_1 : decode cX5_countRests 1 = .ok (.istore_n 3, 1) := by decide +kernel
theorem dX5_countRests_2 : decode cX5_countRests 2 = .ok (.iconst 0, 1) := by decide +kernel
theorem dX5_countRests_3 : decode cX5_countRests 3 = .ok (.istore 4, 2) := by decide +kernel
theorem dX5_countRests_5 : decode cX5_countRests 5 = .ok (.iload 4, 2) := by decide +kernel
theorem dX5_countRests_7 : decode cX5_countRests 7 = .ok (.bipush 25, 2) := by decide +kernel
theorem dX5_countRests_9 : decode cX5_countRests 9 = .ok (.if_icmp .ge 23, 3) := by decide +kernel
theorem dX5_countRests_12 : decode cX5_countRests 12 = .ok (.aload_n 0, 1) := by decide +kernel
theorem dX5_countRests_13 : decode cX5_countRests 13 = .ok (.iload 4, 2) := by decide +kernel
theorem dX5_countRests_15 : decode cX5_countRests 15 = .ok (.iload_n 1, 1) := by decide +kernel
theorem dX5_countRests_16 : decode cX5_countRests 16 = .ok (.iload_n 2, 1) := by decide +kernel
theorem dX5_countRests_17 : decode cX5_countRests 17 = .ok (.invokevirtual 126, 3) := by decide +kernel
theorem dX5_countRests_20 : decode cX5_countRests 20 = .ok (.ifCond .eq 6, 3) := by decide +kernel
theorem dX5_countRests_23 : decode cX5_countRests 23 = .ok (.iinc 3 1, 3) := by decide +kernel
theorem dX5_countRests_26 : decode cX5_countRests 26 = .ok (.iinc 4 1, 3) := by decide +kernel
theorem dX5_countRests_29 : decode cX5_countRests 29 = .ok (.goto (-24), 3) := by decide +kernel
theorem dX5_countRests_32 : decode cX5_countRests 32 = .ok (.iload_n 3, 1) := by decide +kernel
theorem dX5_countRests_33 : decode cX5_countRests 33 = .ok (.ireturn, 1) := by decide +kernel
theorem dX5_gain_0 : decode cX5_gain 0 = .ok (.aload_n 0, 1) := by decide +kernel
theorem dX5_gain_1 : decode cX5_gain 1 = .ok (.getfield 27, 3) := by decide +kernel
theorem dX5_gain_4 : decode cX5_gain 4 = .ok (.iload_n 1, 1) := by decide +kernel
theorem dX5_gain_5 : decode cX5_gain 5 = .ok (.iconst 5, 1) := by decide +kernel
theorem dX5_gain_6 : decode cX5_gain 6 = .ok (.imul, 1) := by decide +kernel
theorem dX5_gain_7 : decode cX5_gain 7 = .ok (.iload_n 2, 1) := by decide +kernel
theorem dX5_gain_8 : decode cX5_gain 8 = .ok (.iadd, 1) := by decide +kernel
theorem dX5_gain_9 : decode cX5_gain 9 = .ok (.iaload, 1) := by decide +kernel
theorem dX5_gain_10 : decode cX5_gain 10 = .ok (.iload_n 3, 1) := by decide +kernel
theorem dX5_gain_11 : decode cX5_gain 11 = .ok (.if_icmp .ne 13, 3) := by decide +kernel
theorem dX5_gain_14 : decode cX5_gain 14 = .ok (.bipush 20, 2) := by decide +kernel
theorem dX5_gain_16 : decode cX5_gain 16 = .ok (.iconst 5, 1) := by decide +kernel
theorem dX5_gain_17 : decode cX5_gain 17 = .ok (.iload 4, 2) := by decide +kernel
theorem dX5_gain_19 : decode cX5_gain 19 = .ok (.imul, 1) := by decide +kernel
theorem dX5_gain_20 : decode cX5_gain 20 = .ok (.isub, 1) := by decide +kernel
theorem dX5_gain_21 : decode cX5_gain 21 = .ok (.goto 4, 3) := by decide +kernel
theorem dX5_gain_24 : decode cX5_gain 24 = .ok (.iconst 0, 1) := by decide +kernel
theorem dX5_gain_25 : decode cX5_gain 25 = .ok (.ireturn, 1) := by decide +kernel
theorem dX5_isRest_0 : decode cX5_isRest 0 = .ok (.iload_n 1, 1) := by decide +kernel
theorem dX5_isRest_1 : decode cX5_isRest 1 = .ok (.iconst 5, 1) := by decide +kernel
theorem dX5_isRest_2 : decode cX5_isRest 2 = .ok (.idiv, 1) := by decide +kernel
theorem dX5_isRest_3 : decode cX5_isRest 3 = .ok (.istore 4, 2) := by decide +kernel
theorem dX5_isRest_5 : decode cX5_isRest 5 = .ok (.iload_n 1, 1) := by decide +kernel
theorem dX5_isRest_6 : decode cX5_isRest 6 = .ok (.iconst 5, 1) := by decide +kernel
theorem dX5_isRest_7 : decode cX5_isRest 7 = .ok (.irem, 1) := by decide +kernel
theorem dX5_isRest_8 : decode cX5_isRest 8 = .ok (.istore 5, 2) := by decide +kernel
theorem dX5_isRest_10 : decode cX5_isRest 10 = .ok (.aload_n 0, 1) := by decide +kernel
theorem dX5_isRest_11 : decode cX5_isRest 11 = .ok (.iload 4, 2) := by decide +kernel
theorem dX5_isRest_13 : decode cX5_isRest 13 = .ok (.iload 5, 2) := by decide +kernel
theorem dX5_isRest_15 : decode cX5_isRest 15 = .ok (.iload_n 2, 1) := by decide +kernel
theorem dX5_isRest_16 : decode cX5_isRest 16 = .ok (.iload 4, 2) := by decide +kernel
theorem dX5_isRest_18 : decode cX5_isRest 18 = .ok (.invokevirtual 129, 3) := by decide +kernel
theorem dX5_isRest_21 : decode cX5_isRest 21 = .ok (.istore 6, 2) := by decide +kernel
theorem dX5_isRest_23 : decode cX5_isRest 23 = .ok (.aload_n 0, 1) := by decide +kernel
theorem dX5_isRest_24 : decode cX5_isRest 24 = .ok (.iload 4, 2) := by decide +kernel
theorem dX5_isRest_26 : decode cX5_isRest 26 = .ok (.iload 5, 2) := by decide +kernel
theorem dX5_isRest_28 : decode cX5_isRest 28 = .ok (.iload_n 3, 1) := by decide +kernel
theorem dX5_isRest_29 : decode cX5_isRest 29 = .ok (.iload 5, 2) := by decide +kernel
theorem dX5_isRest_31 : decode cX5_isRest 31 = .ok (.invokevirtual 129, 3) := by decide +kernel
theorem dX5_isRest_34 : decode cX5_isRest 34 = .ok (.istore 7, 2) := by decide +kernel
theorem dX5_isRest_36 : decode cX5_isRest 36 = .ok (.iconst 0, 1) := by decide +kernel
theorem dX5_isRest_37 : decode cX5_isRest 37 = .ok (.istore 8, 2) := by decide +kernel
theorem dX5_isRest_39 : decode cX5_isRest 39 = .ok (.iload 8, 2) := by decide +kernel
theorem dX5_isRest_41 : decode cX5_isRest 41 = .ok (.iconst 5, 1) := by decide +kernel
theorem dX5_isRest_42 : decode cX5_isRest 42 = .ok (.if_icmp .ge 43, 3) := by decide +kernel
theorem dX5_isRest_45 : decode cX5_isRest 45 = .ok (.aload_n 0, 1) := by decide +kernel
theorem dX5_isRest_46 : decode cX5_isRest 46 = .ok (.iload 8, 2) := by decide +kernel
theorem dX5_isRest_48 : decode cX5_isRest 48 = .ok (.iload 5, 2) := by decide +kernel
theorem dX5_isRest_50 : decode cX5_isRest 50 = .ok (.iload_n 2, 1) := by decide +kernel
theorem dX5_isRest_51 : decode cX5_isRest 51 = .ok (.iload 8, 2) := by decide +kernel
theorem dX5_isRest_53 : decode cX5_isRest 53 = .ok (.invokevirtual 129, 3) := by decide +kernel
theorem dX5_isRest_56 : decode cX5_isRest 56 = .ok (.iload 6, 2) := by decide +kernel
theorem dX5_isRest_58 : decode cX5_isRest 58 = .ok (.if_icmp .gt 19, 3) := by decide +kernel
theorem dX5_isRest_61 : decode cX5_isRest 61 = .ok (.aload_n 0, 1) := by decide +kernel
theorem dX5_isRest_62 : decode cX5_isRest 62 = .ok (.iload 4, 2) := by decide +kernel
theorem dX5_isRest_64 : decode cX5_isRest 64 = .ok (.iload 8, 2) := by decide +kernel
theorem dX5_isRest_66 : decode cX5_isRest 66 = .ok (.iload_n 3, 1) := by decide +kernel
theorem dX5_isRest_67 : decode cX5_isRest 67 = .ok (.iload 8, 2) := by decide +kernel
theorem dX5_isRest_69 : decode cX5_isRest 69 = .ok (.invokevirtual 129, 3) := by decide +kernel
theorem dX5_isRest_72 : decode cX5_isRest 72 = .ok (.iload 7, 2) := by decide +kernel
theorem dX5_isRest_74 : decode cX5_isRest 74 = .ok (.if_icmp .le 5, 3) := by decide +kernel
theorem dX5_isRest_77 : decode cX5_isRest 77 = .ok (.iconst 0, 1) := by decide +kernel
theorem dX5_isRest_78 : decode cX5_isRest 78 = .ok (.ireturn, 1) := by decide +kernel
theorem dX5_isRest_79 : decode cX5_isRest 79 = .ok (.iinc 8 1, 3) := by decide +kernel
theorem dX5_isRest_82 : decode cX5_isRest 82 = .ok (.goto (-43), 3) := by decide +kernel
theorem dX5_isRest_85 : decode cX5_isRest 85 = .ok (.iconst 1, 1) := by decide +kernel
theorem dX5_isRest_86 : decode cX5_isRest 86 = .ok (.ireturn, 1) := by decide +kernel
theorem dX5_lastLeft_0 : decode cX5_lastLeft 0 = .ok (.aload_n 0, 1) := by decide +kernel
theorem dX5_lastLeft_1 : decode cX5_lastLeft 1 = .ok (.getfield 43, 3) := by decide +kernel
theorem dX5_lastLeft_4 : decode cX5_lastLeft 4 = .ok (.istore_n 1, 1) := by decide +kernel
theorem dX5_lastLeft_5 : decode cX5_lastLeft 5 = .ok (.iconst 0, 1) := by decide +kernel
theorem dX5_lastLeft_6 : decode cX5_lastLeft 6 = .ok (.istore_n 2, 1) := by decide +kernel
theorem dX5_lastLeft_7 : decode cX5_lastLeft 7 = .ok (.iload_n 2, 1) := by decide +kernel
theorem dX5_lastLeft_8 : decode cX5_lastLeft 8 = .ok (.bipush 6, 2) := by decide +kernel
theorem dX5_lastLeft_10 : decode cX5_lastLeft 10 = .ok (.if_icmp .ge 29, 3) := by decide +kernel
theorem dX5_lastLeft_13 : decode cX5_lastLeft 13 = .ok (.iload_n 1, 1) := by decide +kernel
theorem dX5_lastLeft_14 : decode cX5_lastLeft 14 = .ok (.invokestatic 52, 3) := by decide +kernel
theorem dX5_lastLeft_17 : decode cX5_lastLeft 17 = .ok (.iconst 1, 1) := by decide +kernel
theorem dX5_lastLeft_18 : decode cX5_lastLeft 18 = .ok (.if_icmp .le 21, 3) := by decide +kernel
theorem dX5_lastLeft_21 : decode cX5_lastLeft 21 = .ok (.iload_n 1, 1) := by decide +kernel
theorem dX5_lastLeft_22 : decode cX5_lastLeft 22 = .ok (.iconst 1, 1) := by decide +kernel
theorem dX5_lastLeft_23 : decode cX5_lastLeft 23 = .ok (.aload_n 0, 1) := by decide +kernel
theorem dX5_lastLeft_24 : decode cX5_lastLeft 24 = .ok (.iload_n 1, 1) := by decide +kernel
theorem dX5_lastLeft_25 : decode cX5_lastLeft 25 = .ok (.invokevirtual 114, 3) := by decide +kernel
theorem dX5_lastLeft_28 : decode cX5_lastLeft 28 = .ok (.ishl, 1) := by decide +kernel
theorem dX5_lastLeft_29 : decode cX5_lastLeft 29 = .ok (.iconst (-1), 1) := by decide +kernel
theorem dX5_lastLeft_30 : decode cX5_lastLeft 30 = .ok (.ixor, 1) := by decide +kernel
theorem dX5_lastLeft_31 : decode cX5_lastLeft 31 = .ok (.iand, 1) := by decide +kernel
theorem dX5_lastLeft_32 : decode cX5_lastLeft 32 = .ok (.istore_n 1, 1) := by decide +kernel
theorem dX5_lastLeft_33 : decode cX5_lastLeft 33 = .ok (.iinc 2 1, 3) := by decide +kernel
theorem dX5_lastLeft_36 : decode cX5_lastLeft 36 = .ok (.goto (-29), 3) := by decide +kernel
theorem dX5_lastLeft_39 : decode cX5_lastLeft 39 = .ok (.iconst 0, 1) := by decide +kernel
theorem dX5_lastLeft_40 : decode cX5_lastLeft 40 = .ok (.istore_n 2, 1) := by decide +kernel
theorem dX5_lastLeft_41 : decode cX5_lastLeft 41 = .ok (.iload_n 2, 1) := by decide +kernel
theorem dX5_lastLeft_42 : decode cX5_lastLeft 42 = .ok (.aload_n 0, 1) := by decide +kernel
theorem dX5_lastLeft_43 : decode cX5_lastLeft 43 = .ok (.getfield 36, 3) := by decide +kernel
theorem dX5_lastLeft_46 : decode cX5_lastLeft 46 = .ok (.if_icmp .ge 19, 3) := by decide +kernel
theorem dX5_lastLeft_49 : decode cX5_lastLeft 49 = .ok (.iload_n 1, 1) := by decide +kernel
theorem dX5_lastLeft_50 : decode cX5_lastLeft 50 = .ok (.iload_n 2, 1) := by decide +kernel
theorem dX5_lastLeft_51 : decode cX5_lastLeft 51 = .ok (.invokestatic 57, 3) := by decide +kernel
theorem dX5_lastLeft_54 : decode cX5_lastLeft 54 = .ok (.ifCond .eq 5, 3) := by decide +kernel
theorem dX5_lastLeft_57 : decode cX5_lastLeft 57 = .ok (.iload_n 2, 1) := by decide +kernel
theorem dX5_lastLeft_58 : decode cX5_lastLeft 58 = .ok (.ireturn, 1) := by decide +kernel
theorem dX5_lastLeft_59 : decode cX5_lastLeft 59 = .ok (.iinc 2 1, 3) := by decide +kernel
theorem dX5_lastLeft_62 : decode cX5_lastLeft 62 = .ok (.goto (-21), 3) := by decide +kernel
theorem dX5_lastLeft_65 : decode cX5_lastLeft 65 = .ok (.iconst (-1), 1) := by decide +kernel
theorem dX5_lastLeft_66 : decode cX5_lastLeft 66 = .ok (.ireturn, 1) := by decide +kernel
theorem dX5_mostPoints_0 : decode cX5_mostPoints 0 = .ok (.iconst (-1), 1) := by decide +kernel
theorem dX5_mostPoints_1 : decode cX5_mostPoints 1 = .ok (.istore_n 1, 1) := by decide +kernel
theorem dX5_mostPoints_2 : decode cX5_mostPoints 2 = .ok (.iconst (-1), 1) := by decide +kernel
theorem dX5_mostPoints_3 : decode cX5_mostPoints 3 = .ok (.istore_n 2, 1) := by decide +kernel
theorem dX5_mostPoints_4 : decode cX5_mostPoints 4 = .ok (.iconst 0, 1) := by decide +kernel
theorem dX5_mostPoints_5 : decode cX5_mostPoints 5 = .ok (.istore_n 3, 1) := by decide +kernel
theorem dX5_mostPoints_6 : decode cX5_mostPoints 6 = .ok (.iload_n 3, 1) := by decide +kernel
theorem dX5_mostPoints_7 : decode cX5_mostPoints 7 = .ok (.aload_n 0, 1) := by decide +kernel
theorem dX5_mostPoints_8 : decode cX5_mostPoints 8 = .ok (.getfield 36, 3) := by decide +kernel
theorem dX5_mostPoints_11 : decode cX5_mostPoints 11 = .ok (.if_icmp .ge 37, 3) := by decide +kernel
theorem dX5_mostPoints_14 : decode cX5_mostPoints 14 = .ok (.aload_n 0, 1) := by decide +kernel
theorem dX5_mostPoints_15 : decode cX5_mostPoints 15 = .ok (.getfield 43, 3) := by decide +kernel
theorem dX5_mostPoints_18 : decode cX5_mostPoints 18 = .ok (.iload_n 3, 1) := by decide +kernel
theorem dX5_mostPoints_19 : decode cX5_mostPoints 19 = .ok (.invokestatic 57, 3) := by decide +kernel
theorem dX5_mostPoints_22 : decode cX5_mostPoints 22 = .ok (.ifCond .eq 20, 3) := by decide +kernel
theorem dX5_mostPoints_25 : decode cX5_mostPoints 25 = .ok (.aload_n 0, 1) := by decide +kernel
theorem dX5_mostPoints_26 : decode cX5_mostPoints 26 = .ok (.iload_n 3, 1) := by decide +kernel
theorem dX5_mostPoints_27 : decode cX5_mostPoints 27 = .ok (.invokevirtual 104, 3) := by decide +kernel
theorem dX5_mostPoints_30 : decode cX5_mostPoints 30 = .ok (.iload_n 2, 1) := by decide +kernel
theorem dX5_mostPoints_31 : decode cX5_mostPoints 31 = .ok (.if_icmp .le 11, 3) := by decide +kernel
theorem dX5_mostPoints_34 : decode cX5_mostPoints 34 = .ok (.iload_n 3, 1) := by decide +kernel
theorem dX5_mostPoints_35 : decode cX5_mostPoints 35 = .ok (.istore_n 1, 1) := by decide +kernel
theorem dX5_mostPoints_36 : decode cX5_mostPoints 36 = .ok (.aload_n 0, 1) := by decide +kernel
theorem dX5_mostPoints_37 : decode cX5_mostPoints 37 = .ok (.iload_n 3, 1) := by decide +kernel
theorem dX5_mostPoints_38 : decode cX5_mostPoints 38 = .ok (.invokevirtual 104, 3) := by decide +kernel
theorem dX5_mostPoints_41 : decode cX5_mostPoints 41 = .ok (.istore_n 2, 1) := by decide +kernel
theorem dX5_mostPoints_42 : decode cX5_mostPoints 42 = .ok (.iinc 3 1, 3) := by decide +kernel
theorem dX5_mostPoints_45 : decode cX5_mostPoints 45 = .ok (.goto (-39), 3) := by decide +kernel
theorem dX5_mostPoints_48 : decode cX5_mostPoints 48 = .ok (.iload_n 1, 1) := by decide +kernel
theorem dX5_mostPoints_49 : decode cX5_mostPoints 49 = .ok (.ireturn, 1) := by decide +kernel
theorem dX5_pointsOf_0 : decode cX5_pointsOf 0 = .ok (.iconst 0, 1) := by decide +kernel
theorem dX5_pointsOf_1 : decode cX5_pointsOf 1 = .ok (.istore_n 2, 1) := by decide +kernel
theorem dX5_pointsOf_2 : decode cX5_pointsOf 2 = .ok (.iconst 0, 1) := by decide +kernel
theorem dX5_pointsOf_3 : decode cX5_pointsOf 3 = .ok (.istore_n 3, 1) := by decide +kernel
theorem dX5_pointsOf_4 : decode cX5_pointsOf 4 = .ok (.iload_n 3, 1) := by decide +kernel
theorem dX5_pointsOf_5 : decode cX5_pointsOf 5 = .ok (.aload_n 0, 1) := by decide +kernel
theorem dX5_pointsOf_6 : decode cX5_pointsOf 6 = .ok (.getfield 36, 3) := by decide +kernel
theorem dX5_pointsOf_9 : decode cX5_pointsOf 9 = .ok (.if_icmp .ge 29, 3) := by decide +kernel
theorem dX5_pointsOf_12 : decode cX5_pointsOf 12 = .ok (.aload_n 0, 1) := by decide +kernel
theorem dX5_pointsOf_13 : decode cX5_pointsOf 13 = .ok (.getfield 43, 3) := by decide +kernel
theorem dX5_pointsOf_16 : decode cX5_pointsOf 16 = .ok (.iload_n 3, 1) := by decide +kernel
theorem dX5_pointsOf_17 : decode cX5_pointsOf 17 = .ok (.invokestatic 57, 3) := by decide +kernel
theorem dX5_pointsOf_20 : decode cX5_pointsOf 20 = .ok (.ifCond .eq 12, 3) := by decide +kernel
theorem dX5_pointsOf_23 : decode cX5_pointsOf 23 = .ok (.iload_n 2, 1) := by decide +kernel
theorem dX5_pointsOf_24 : decode cX5_pointsOf 24 = .ok (.aload_n 0, 1) := by decide +kernel
theorem dX5_pointsOf_25 : decode cX5_pointsOf 25 = .ok (.iload_n 1, 1) := by decide +kernel
theorem dX5_pointsOf_26 : decode cX5_pointsOf 26 = .ok (.iload_n 3, 1) := by decide +kernel
theorem dX5_pointsOf_27 : decode cX5_pointsOf 27 = .ok (.invokevirtual 107, 3) := by decide +kernel
theorem dX5_pointsOf_30 : decode cX5_pointsOf 30 = .ok (.iadd, 1) := by decide +kernel
theorem dX5_pointsOf_31 : decode cX5_pointsOf 31 = .ok (.istore_n 2, 1) := by decide +kernel
theorem dX5_pointsOf_32 : decode cX5_pointsOf 32 = .ok (.iinc 3 1, 3) := by decide +kernel
theorem dX5_pointsOf_35 : decode cX5_pointsOf 35 = .ok (.goto (-31), 3) := by decide +kernel
theorem dX5_pointsOf_38 : decode cX5_pointsOf 38 = .ok (.iload_n 2, 1) := by decide +kernel
theorem dX5_pointsOf_39 : decode cX5_pointsOf 39 = .ok (.ireturn, 1) := by decide +kernel
theorem li_25 : (25 : Int32).toInt = 25 := by decide
set_option maxHeartbeats 4000000 in
set_option maxRecDepth 100000 in
theorem t_X5_lastLeft (l : Launch) (dC : Nat → ClassId) (dI : Nat → Nat → Nat) (tys : List (ClassId × FieldType)) (κ : tK) (B : Nat) (ws : va_W) (hT : Ty κ tys B ws) (a0 : Nat) (k_a0 : κ a0 = some 5) (sz : Nat) : Met l yX5_lastLeft (ws_u yX5_lastLeft cX5_lastLeft 3 (some .int)) ({ frames := 3, cells := 0, slots := 0, locals := 70 }) (va_Pc [.ref a0] (cPre (dC, dI) tys ws sz)) (va_Qi (fun (r : Int32) (w : va_W) => (-1) ≤ r.toInt ∧ r.toInt ≤ 5 ∧ Ty κ tys B w ∧ Sm [] [35] κ ws w) (fun w t => cPost (dC, dI) tys w (va_A ws sz) t) (va_A ws sz)) 0 0 (va_A ws sz) := by
  refine Met.ofW (cc := cX5_lastLeft) (maxL := 3) (ret := (some .int)) (by decide) rfl ?_
  intro p e s m args below meth c s₁ B0 hml hv
  obtain ⟨rfl, hsz, hP, hK, hD0, hE⟩ := hv
  have hx := B0.exec
  have hb := B0.bytes
  have hr := B0.returns
  have hts0 := atoms_spec (ws := ws_u yX5_lastLeft cX5_lastLeft 3 (some .int)) B0.pre
  have hts : ∀ w ∈ gT, w.before _ s = true := fun w h => hts0 w (List.mem_cons_of_mem _ h)
  have hown : s.vm.findClass RX5 = some m.cls := findClass_of_methodNamed B0.named
  have hlocks := B0.notSynchronized
  subst hsz
  have hD := hD0.self (sz := s.heap.size)
  generalize hAe : va_A ws s.heap.size = A at hD ⊢
  have hA : ∀ q : Nat, s.heap.size ≤ q → A q := fun q h => by rw [← hAe]; exact Or.inr h
  have hw : tW (dC, dI) tys κ B A s ws s.heap [] := ⟨hK, hP, hD, va_S.rf, hT⟩
  have hM : Sm [] [35] κ ws ws := Sm.rf
  clear hP hK hD hD0 hts0
  have hl := lv_entry ([.ref a0]) (n := 3) (Nat.le_of_ble_eq_true rfl)
  rw [lg_entry_eq]
  generalize (lg_sl ([.ref a0]) ++ List.replicate (3 - (lg_sl ([.ref a0])).length) Slot.unset).toArray = ls at hl ⊢
  have hl : lv_has ls 3 [(0, .ref a0)] := hl
  refine t_start (fun QQ hQ => ?_)
  refine lv_aload_n hx hb dX5_lastLeft_0 rfl (lv_at hl 0 rfl) ?_
  refine t_geti (ci := 5) (C := RX5) (T := TX5) (N := 8) hx hb hts iX5 hown hw k_a0 rfl rfl rfl 1 (by decide) (hts _ tw_345) (fun _ h9 => h9) dX5_lastLeft_1 rfl (fun v1 l_v1 h_v1 f_a0_X5_1 => ?_)
  have l_v1 : (-2147483648) ≤ v1.toInt := l_v1
  have h_v1 : v1.toInt ≤ 2147483647 := h_v1
  refine lv_istore_n (lv' := [(1, .int v1), (0, .ref a0)]) hx hb dX5_lastLeft_4 rfl hl (by decide) rfl (fun ls hl => ?_)
  refine lv_iconst (v := 0) hx hb dX5_lastLeft_5 (by decide) ?_
  refine lv_istore_n (lv' := [(2, .int 0), (1, .int v1), (0, .ref a0)]) hx hb dX5_lastLeft_6 rfl hl (by decide) rfl (fun ls hl => ?_)
  have J7 : ∀ (n : Nat) (H : Heap) (locs : List Loc) (ls : Array Slot), (∃ (w7 : va_W) (p7_l1 : Int32) (p7_l2 : Int32), tW (dC, dI) tys κ B A s w7 H locs ∧ Sm [] [35] κ ws w7 ∧ (-2147483648) ≤ p7_l1.toInt ∧ p7_l1.toInt ≤ 2147483647 ∧ 0 ≤ p7_l2.toInt ∧ p7_l2.toInt ≤ 6 ∧ fld w7 a0 5 1 (.int v1) ∧ lv_has ls 3 [(0, .ref a0), (1, .int p7_l1), (2, .int p7_l2)] ∧ (6 - p7_l2.toInt).toNat = n) → W p l e (headSpec (ws_u yX5_lastLeft cX5_lastLeft 3 (some .int)) ({ frames := 3, cells := 0, slots := 0, locals := 70 })).room s m ([.ref a0] : List Value).toArray below meth c H locs 0 0 QQ (F0 m 7 ls []) := by
    refine loopT _ ?_
    intro n_7 H locs ls hI ih_7
    obtain ⟨w7, p7_l1, p7_l2, hw, hM, l_p7_l1, h_p7_l1, l_p7_l2, h_p7_l2, f_a0_X5_1, hl, hn_7⟩ := hI
    refine lv_iload_n hx hb dX5_lastLeft_7 rfl (lv_at hl 2 rfl) ?_
    refine lv_bipush (v := 6) hx hb dX5_lastLeft_8 (by decide) ?_
    have J39 : ∀ (H : Heap) (locs : List Loc) (ls : Array Slot) (w39 : va_W), tW (dC, dI) tys κ B A s w39 H locs → Sm [] [35] κ ws w39 → fld w39 a0 5 1 (.int v1) → lv_has ls 3 [(0, .ref a0), (1, .int p7_l1), (2, .int p7_l2)] → W p l e (headSpec (ws_u yX5_lastLeft cX5_lastLeft 3 (some .int)) ({ frames := 3, cells := 0, slots := 0, locals := 70 })).room s m ([.ref a0] : List Value).toArray below meth c H locs 0 0 QQ (F0 m 39 ls []) := by
      intro H locs ls w39 hw hM f_a0_X5_1 hl
      refine lv_iconst (v := 0) hx hb dX5_lastLeft_39 (by decide) ?_
      refine lv_istore_n (lv' := [(2, .int 0), (0, .ref a0), (1, .int p7_l1)]) hx hb dX5_lastLeft_40 rfl hl (by decide) rfl (fun ls hl => ?_)
      have J41 : ∀ (n : Nat) (H : Heap) (locs : List Loc) (ls : Array Slot), (∃ (w41 : va_W) (p41_l2 : Int32), tW (dC, dI) tys κ B A s w41 H locs ∧ Sm [] [35] κ ws w41 ∧ 0 ≤ p41_l2.toInt ∧ p41_l2.toInt ≤ 6 ∧ fld w41 a0 5 1 (.int v1) ∧ lv_has ls 3 [(0, .ref a0), (1, .int p7_l1), (2, .int p41_l2)] ∧ (6 - p41_l2.toInt).toNat = n) → W p l e (headSpec (ws_u yX5_lastLeft cX5_lastLeft 3 (some .int)) ({ frames := 3, cells := 0, slots := 0, locals := 70 })).room s m ([.ref a0] : List Value).toArray below meth c H locs 0 0 QQ (F0 m 41 ls []) := by
        refine loopT _ ?_
        intro n_41 H locs ls hI ih_41
        obtain ⟨w41, p41_l2, hw, hM, l_p41_l2, h_p41_l2, f_a0_X5_1, hl, hn_41⟩ := hI
        refine lv_iload_n hx hb dX5_lastLeft_41 rfl (lv_at hl 2 rfl) ?_
        refine lv_aload_n hx hb dX5_lastLeft_42 rfl (lv_at hl 0 rfl) ?_
        refine t_geti (ci := 5) (C := RX5) (T := TX5) (N := 8) hx hb hts iX5 hown hw k_a0 rfl rfl rfl 0 (by decide) (hts _ tw_344) (fun _ h9 => h9) dX5_lastLeft_43 rfl (fun v43 l_v43 h_v43 f_a0_X5_0 => ?_)
        have l_v43 : 0 ≤ v43.toInt := l_v43
        have h_v43 : v43.toInt ≤ 6 := h_v43
        refine lv_icmp_ge (tgt := 65) hx hb dX5_lastLeft_46 (by decide) (fun c_46 => ?_) (fun c_46 => ?_)
        · simp only [fa_lt, fa_le, fa_eq] at c_46
          refine lv_iconst (v := (-1)) hx hb dX5_lastLeft_65 (by decide) ?_
          rw [hQ]
          refine W.widen (k := 0) (n := 0) (Nat.le_refl _) (Nat.le_refl _) ?_
          exact W.iret (v := (-1)) hx hb hr (fun t ht hW => ⟨⟨(-1), w41, rfl, ⟨(by decide), (by decide), hw.2.2.2.2, hM⟩, by rw [ht]; exact hw.2.1, va_K.moved hW.alike hw.1, hw.2.2.1⟩, hw.2.2.2.1.F ht⟩) hw.2.2.2.1.2.2 dX5_lastLeft_66
        · simp only [fa_lt, fa_le, fa_eq] at c_46
          refine lv_iload_n hx hb dX5_lastLeft_49 rfl (lv_at hl 1 rfl) ?_
          refine lv_iload_n hx hb dX5_lastLeft_50 rfl (lv_at hl 2 rfl) ?_
          refine t_calli (va_runS (As := [.int p7_l1, .int p41_l2]) (rest := []) ⟨hx, hb, hml, hown, hts⟩ (t_X5_isIn l dC dI tys κ B w41 hw.2.2.2.2 p7_l1 p41_l2 (by omega) (by omega) H.size) (va_cwS 2 hts (gUS tw_778 tw_779 tw_10 tw_780) rfl rfl rfl (by decide +kernel) ⟨(Nat.le_of_ble_eq_true rfl), (Nat.le_of_ble_eq_true rfl)⟩) ⟨cPre.blind, cPre.use hw.2.1 hw.1 hw.2.2.1 hE⟩ rfl rfl hl.1 rfl (lv_room (Nat.le_of_ble_eq_true rfl)) dX5_lastLeft_51 ⟨(Nat.le_of_ble_eq_true rfl), (Nat.le_of_ble_eq_true rfl)⟩) hw hA (fun _ _ h => h.2.2.1) (fun v51 w_1 H locs hp hw => ?_)
          obtain ⟨l_v51, h_v51, _, hm⟩ := hp
          have hM := hM.trans hm (by decide) (by decide)
          have f_a0_X5_1 := hm.1 _ _ _ _ f_a0_X5_1 (by decide)
          have f_a0_X5_0 := hm.1 _ _ _ _ f_a0_X5_0 (by decide)
          refine lv_if_eq (tgt := 59) hx hb dX5_lastLeft_54 (by decide) (fun c_54 => ?_) (fun c_54 => ?_)
          · simp only [fa_lt, fa_le, fa_eq, li_0] at c_54
            obtain ⟨v59, e_v59⟩ : ∃ y : Int32, y = p41_l2 + 1 := ⟨_, rfl⟩
            refine lv_iinc (v := v59) (lv' := [(2, .int v59), (0, .ref a0), (1, .int p7_l1)]) hx hb dX5_lastLeft_59 hl (k := 2) rfl e_v59.symm (by decide) rfl (fun ls hl => ?_)
            have e_v59 : v59.toInt = p41_l2.toInt + 1 := ad_i e_v59 rfl li_1 (by omega) (by omega)
            refine lv_goto (tgt := 41) hx hb dX5_lastLeft_62 (by decide) ?_
            exact ih_41 _ _ _ _ (by omega) ⟨w_1, v59, hw, hM, (by omega), (by omega), f_a0_X5_1, (lv_sub hl [1, 2, 0] rfl), rfl⟩
          · simp only [fa_lt, fa_le, fa_eq, li_0] at c_54
            refine lv_iload_n hx hb dX5_lastLeft_57 rfl (lv_at hl 2 rfl) ?_
            rw [hQ]
            refine W.widen (k := 0) (n := 0) (Nat.le_refl _) (Nat.le_refl _) ?_
            exact W.iret (v := p41_l2) hx hb hr (fun t ht hW => ⟨⟨p41_l2, w_1, rfl, ⟨(by omega), (by omega), hw.2.2.2.2, hM⟩, by rw [ht]; exact hw.2.1, va_K.moved hW.alike hw.1, hw.2.2.1⟩, hw.2.2.2.1.F ht⟩) hw.2.2.2.1.2.2 dX5_lastLeft_58
      exact J41 _ _ _ _ ⟨w39, 0, hw, hM, (by decide), (by decide), f_a0_X5_1, (lv_sub hl [1, 2, 0] rfl), rfl⟩
    refine lv_icmp_ge (tgt := 39) hx hb dX5_lastLeft_10 (by decide) (fun c_10 => ?_) (fun c_10 => ?_)
    · simp only [fa_lt, fa_le, fa_eq, li_6] at c_10
      exact J39 _ _ _ w7 hw hM f_a0_X5_1 (lv_sub hl [0, 1, 2] rfl)
    · simp only [fa_lt, fa_le, fa_eq, li_6] at c_10
      refine lv_iload_n hx hb dX5_lastLeft_13 rfl (lv_at hl 1 rfl) ?_
      refine t_calli (va_runS (As := [.int p7_l1]) (rest := []) ⟨hx, hb, hml, hown, hts⟩ (t_J6_bitCount_0f7a4 l dC dI tys κ B w7 hw.2.2.2.2 p7_l1 H.size) (va_cwS 1 hts (gUS tw_772 tw_773 tw_21 tw_774) rfl rfl rfl (by decide +kernel) ⟨(Nat.le_of_ble_eq_true rfl), (Nat.le_of_ble_eq_true rfl)⟩) ⟨cPre.blind, cPre.use hw.2.1 hw.1 hw.2.2.1 hE⟩ rfl rfl hl.1 rfl (lv_room (Nat.le_of_ble_eq_true rfl)) dX5_lastLeft_14 ⟨(Nat.le_of_ble_eq_true rfl), (Nat.le_of_ble_eq_true rfl)⟩) hw hA (fun _ _ h => h.2.2.1) (fun v14 w_2 H locs hp hw => ?_)
      obtain ⟨l_v14, h_v14, _, hm⟩ := hp
      have hM := hM.trans hm (by decide) (by decide)
      have f_a0_X5_1 := hm.1 _ _ _ _ f_a0_X5_1 (by decide)
      refine lv_iconst (v := 1) hx hb dX5_lastLeft_17 (by decide) ?_
      refine lv_icmp_le (tgt := 39) hx hb dX5_lastLeft_18 (by decide) (fun c_18 => ?_) (fun c_18 => ?_)
      · simp only [fa_lt, fa_le, fa_eq, li_1] at c_18
        exact J39 _ _ _ w_2 hw hM f_a0_X5_1 (lv_sub hl [0, 1, 2] rfl)
      · simp only [fa_lt, fa_le, fa_eq, li_1] at c_18
        refine lv_iload_n hx hb dX5_lastLeft_21 rfl (lv_at hl 1 rfl) ?_
        refine lv_iconst (v := 1) hx hb dX5_lastLeft_22 (by decide) ?_
        refine lv_aload_n hx hb dX5_lastLeft_23 rfl (lv_at hl 0 rfl) ?_
        refine lv_iload_n hx hb dX5_lastLeft_24 rfl (lv_at hl 1 rfl) ?_
        refine t_calli (va_runV (As := [.int p7_l1]) (rest := [.int 1, .int p7_l1]) ⟨hx, hb, hml, hown, hts⟩ (t_X5_fewestFirstVotes l dC dI tys κ B w_2 hw.2.2.2.2 a0 k_a0 p7_l1 H.size) (cwV 1 hts (gUV tw_932 tw_934 ts_2_4 tw_10 tw_935) rfl rfl rfl (by decide +kernel) ⟨(Nat.le_of_ble_eq_true rfl), (Nat.le_of_ble_eq_true rfl)⟩) ⟨cPre.blind, t_recv hw (ci := 5) k_a0 rfl rfl, cPre.use hw.2.1 hw.1 hw.2.2.1 hE⟩ rfl rfl hl.1 rfl (lv_room (Nat.le_of_ble_eq_true rfl)) dX5_lastLeft_25 ⟨(Nat.le_of_ble_eq_true rfl), (Nat.le_of_ble_eq_true rfl)⟩) hw hA (fun _ _ h => h.2.2.1) (fun v25 w_3 H locs hp hw => ?_)
        obtain ⟨l_v25, h_v25, _, hm⟩ := hp
        have hM := hM.trans hm (by decide) (by decide)
        have f_a0_X5_1 := hm.1 _ _ _ _ f_a0_X5_1 (by decide)
        refine lv_ishl hx hb dX5_lastLeft_28 ?_
        refine lv_topi (fun v28 e_v28 => ?_)
        have ⟨l_v28, h_v28⟩ := sh_i e_v28 (by omega) (by omega)
        refine lv_iconst (v := (-1)) hx hb dX5_lastLeft_29 (by decide) ?_
        refine lv_ixor hx hb dX5_lastLeft_30 ?_
        refine lv_topi (fun v30 e_v30 => ?_)
        have l_v30 := i32_lo v30
        have h_v30 := i32_hi v30
        refine lv_iand hx hb dX5_lastLeft_31 ?_
        refine lv_topi (fun v31 e_v31 => ?_)
        have l_v31 := i32_lo v31
        have h_v31 := i32_hi v31
        refine lv_istore_n (lv' := [(1, .int v31), (0, .ref a0), (2, .int p7_l2)]) hx hb dX5_lastLeft_32 rfl hl (by decide) rfl (fun ls hl => ?_)
        obtain ⟨v33, e_v33⟩ : ∃ y : Int32, y = p7_l2 + 1 := ⟨_, rfl⟩
        refine lv_iinc (v := v33) (lv' := [(2, .int v33), (1, .int v31), (0, .ref a0)]) hx hb dX5_lastLeft_33 hl (k := 2) rfl e_v33.symm (by decide) rfl (fun ls hl => ?_)
        have e_v33 : v33.toInt = p7_l2.toInt + 1 := ad_i e_v33 rfl li_1 (by omega) (by omega)
        refine lv_goto (tgt := 7) hx hb dX5_lastLeft_36 (by decide) ?_
        exact ih_7 _ _ _ _ (by omega) ⟨w_3, v31, v33, hw, hM, (by omega), (by omega), (by omega), (by omega), f_a0_X5_1, (lv_sub hl [2, 1, 0] rfl), rfl⟩
  exact J7 _ _ _ _ ⟨ws, v1, 0, hw, hM, (by omega), (by omega), (by decide), (by decide), f_a0_X5_1, (lv_sub hl [2, 1, 0] rfl), rfl⟩
set_option maxHeartbeats 4000000 in
set_option maxRecDepth 100000 in
theorem t_X5_pointsOf (l : Launch) (dC : Nat → ClassId) (dI : Nat → Nat → Nat) (tys : List (ClassId × FieldType)) (κ : tK) (B : Nat) (ws : va_W) (hT : Ty κ tys B ws) (a0 : Nat) (k_a0 : κ a0 = some 5) (a1 : Int32) (l_a1 : 0 ≤ a1.toInt) (h_a1 : a1.toInt ≤ 5) (sz : Nat) : Met l yX5_pointsOf (ws_u yX5_pointsOf cX5_pointsOf 4 (some .int)) ({ frames := 2, cells := 0, slots := 0, locals := 47 }) (va_Pc [.ref a0, .int a1] (cPre (dC, dI) tys ws sz)) (va_Qi (fun (r : Int32) (w : va_W) => Ty κ tys B w ∧ Sm [] [] κ ws w) (fun w t => cPost (dC, dI) tys w (va_A ws sz) t) (va_A ws sz)) 0 0 (va_A ws sz) := by
  refine Met.ofW (cc := cX5_pointsOf) (maxL := 4) (ret := (some .int)) (by decide) rfl ?_
  intro p e s m args below meth c s₁ B0 hml hv
  obtain ⟨rfl, hsz, hP, hK, hD0, hE⟩ := hv
  have hx := B0.exec
  have hb := B0.bytes
  have hr := B0.returns
  have hts0 := atoms_spec (ws := ws_u yX5_pointsOf cX5_pointsOf 4 (some .int)) B0.pre
  have hts : ∀ w ∈ gT, w.before _ s = true := fun w h => hts0 w (List.mem_cons_of_mem _ h)
  have hown : s.vm.findClass RX5 = some m.cls := findClass_of_methodNamed B0.named
  have hlocks := B0.notSynchronized
  subst hsz
  have hD := hD0.self (sz := s.heap.size)
  generalize hAe : va_A ws s.heap.size = A at hD ⊢
  have hA : ∀ q : Nat, s.heap.size ≤ q → A q := fun q h => by rw [← hAe]; exact Or.inr h
  have hw : tW (dC, dI) tys κ B A s ws s.heap [] := ⟨hK, hP, hD, va_S.rf, hT⟩
  have hM : Sm [] [] κ ws ws := Sm.rf
  clear hP hK hD hD0 hts0
  have hl := lv_entry ([.ref a0, .int a1]) (n := 4) (Nat.le_of_ble_eq_true rfl)
  rw [lg_entry_eq]
  generalize (lg_sl ([.ref a0, .int a1]) ++ List.replicate (4 - (lg_sl ([.ref a0, .int a1])).length) Slot.unset).toArray = ls at hl ⊢
  have hl : lv_has ls 4 [(0, .ref a0), (1, .int a1)] := hl
  refine t_start (fun QQ hQ => ?_)
  refine lv_iconst (v := 0) hx hb dX5_pointsOf_0 (by decide) ?_
  refine lv_istore_n (lv' := [(2, .int 0), (0, .ref a0), (1, .int a1)]) hx hb dX5_pointsOf_1 rfl hl (by decide) rfl (fun ls hl => ?_)
  refine lv_iconst (v := 0) hx hb dX5_pointsOf_2 (by decide) ?_
  refine lv_istore_n (lv' := [(3, .int 0), (2, .int 0), (0, .ref a0), (1, .int a1)]) hx hb dX5_pointsOf_3 rfl hl (by decide) rfl (fun ls hl => ?_)
  have J4 : ∀ (n : Nat) (H : Heap) (locs : List Loc) (ls : Array Slot), (∃ (w4 : va_W) (p4_l2 : Int32) (p4_l3 : Int32), tW (dC, dI) tys κ B A s w4 H locs ∧ Sm [] [] κ ws w4 ∧ (-2147483648) ≤ p4_l2.toInt ∧ p4_l2.toInt ≤ 2147483647 ∧ 0 ≤ p4_l3.toInt ∧ p4_l3.toInt ≤ 6 ∧ lv_has ls 4 [(0, .ref a0), (1, .int a1), (2, .int p4_l2), (3, .int p4_l3)] ∧ (6 - p4_l3.toInt).toNat = n) → W p l e (headSpec (ws_u yX5_pointsOf cX5_pointsOf 4 (some .int)) ({ frames := 2, cells := 0, slots := 0, locals := 47 })).room s m ([.ref a0, .int a1] : List Value).toArray below meth c H locs 0 0 QQ (F0 m 4 ls []) := by
    refine loopT _ ?_
    intro n_4 H locs ls hI ih_4
    obtain ⟨w4, p4_l2, p4_l3, hw, hM, l_p4_l2, h_p4_l2, l_p4_l3, h_p4_l3, hl, hn_4⟩ := hI
    refine lv_iload_n hx hb dX5_pointsOf_4 rfl (lv_at hl 3 rfl) ?_
    refine lv_aload_n hx hb dX5_pointsOf_5 rfl (lv_at hl 0 rfl) ?_
    refine t_geti (ci := 5) (C := RX5) (T := TX5) (N := 8) hx hb hts iX5 hown hw k_a0 rfl rfl rfl 0 (by decide) (hts _ tw_344) (fun _ h9 => h9) dX5_pointsOf_6 rfl (fun v6 l_v6 h_v6 f_a0_X5_0 => ?_)
    have l_v6 : 0 ≤ v6.toInt := l_v6
    have h_v6 : v6.toInt ≤ 6 := h_v6
    refine lv_icmp_ge (tgt := 38) hx hb dX5_pointsOf_9 (by decide) (fun c_9 => ?_) (fun c_9 => ?_)
    · simp only [fa_lt, fa_le, fa_eq] at c_9
      refine lv_iload_n hx hb dX5_pointsOf_38 rfl (lv_at hl 2 rfl) ?_
      rw [hQ]
      refine W.widen (k := 0) (n := 0) (Nat.le_refl _) (Nat.le_refl _) ?_
      exact W.iret (v := p4_l2) hx hb hr (fun t ht hW => ⟨⟨p4_l2, w4, rfl, ⟨hw.2.2.2.2, hM⟩, by rw [ht]; exact hw.2.1, va_K.moved hW.alike hw.1, hw.2.2.1⟩, hw.2.2.2.1.F ht⟩) hw.2.2.2.1.2.2 dX5_pointsOf_39
    · simp only [fa_lt, fa_le, fa_eq] at c_9
      refine lv_aload_n hx hb dX5_pointsOf_12 rfl (lv_at hl 0 rfl) ?_
      refine t_geti (ci := 5) (C := RX5) (T := TX5) (N := 8) hx hb hts iX5 hown hw k_a0 rfl rfl rfl 1 (by decide) (hts _ tw_345) (fun _ h9 => h9) dX5_pointsOf_13 rfl (fun v13 l_v13 h_v13 f_a0_X5_1 => ?_)
      have l_v13 : (-2147483648) ≤ v13.toInt := l_v13
      have h_v13 : v13.toInt ≤ 2147483647 := h_v13
      refine lv_iload_n hx hb dX5_pointsOf_16 rfl (lv_at hl 3 rfl) ?_
      refine t_calli (va_runS (As := [.int v13, .int p4_l3]) (rest := []) ⟨hx, hb, hml, hown, hts⟩ (t_X5_isIn l dC dI tys κ B w4 hw.2.2.2.2 v13 p4_l3 (by omega) (by omega) H.size) (va_cwS 2 hts (gUS tw_778 tw_779 tw_10 tw_780) rfl rfl rfl (by decide +kernel) ⟨(Nat.le_of_ble_eq_true rfl), (Nat.le_of_ble_eq_true rfl)⟩) ⟨cPre.blind, cPre.use hw.2.1 hw.1 hw.2.2.1 hE⟩ rfl rfl hl.1 rfl (lv_room (Nat.le_of_ble_eq_true rfl)) dX5_pointsOf_17 ⟨(Nat.le_of_ble_eq_true rfl), (Nat.le_of_ble_eq_true rfl)⟩) hw hA (fun _ _ h => h.2.2.1) (fun v17 w_1 H locs hp hw => ?_)
      obtain ⟨l_v17, h_v17, _, hm⟩ := hp
      have hM := hM.trans hm (by decide) (by decide)
      have f_a0_X5_0 := hm.1 _ _ _ _ f_a0_X5_0 (by decide)
      have f_a0_X5_1 := hm.1 _ _ _ _ f_a0_X5_1 (by decide)
      have J32 : ∀ (H : Heap) (locs : List Loc) (ls : Array Slot) (w32 : va_W) (p32_l2 : Int32), tW (dC, dI) tys κ B A s w32 H locs → Sm [] [] κ ws w32 → (-2147483648) ≤ p32_l2.toInt → p32_l2.toInt ≤ 2147483647 → fld w32 a0 5 0 (.int v6) → fld w32 a0 5 1 (.int v13) → lv_has ls 4 [(0, .ref a0), (1, .int a1), (2, .int p32_l2), (3, .int p4_l3)] → W p l e (headSpec (ws_u yX5_pointsOf cX5_pointsOf 4 (some .int)) ({ frames := 2, cells := 0, slots := 0, locals := 47 })).room s m ([.ref a0, .int a1] : List Value).toArray below meth c H locs 0 0 QQ (F0 m 32 ls []) := by
        intro H locs ls w32 p32_l2 hw hM l_p32_l2 h_p32_l2 f_a0_X5_0 f_a0_X5_1 hl
        obtain ⟨v32, e_v32⟩ : ∃ y : Int32, y = p4_l3 + 1 := ⟨_, rfl⟩
        refine lv_iinc (v := v32) (lv' := [(3, .int v32), (0, .ref a0), (1, .int a1), (2, .int p32_l2)]) hx hb dX5_pointsOf_32 hl (k := 3) rfl e_v32.symm (by decide) rfl (fun ls hl => ?_)
        have e_v32 : v32.toInt = p4_l3.toInt + 1 := ad_i e_v32 rfl li_1 (by omega) (by omega)
        refine lv_goto (tgt := 4) hx hb dX5_pointsOf_35 (by decide) ?_
        exact ih_4 _ _ _ _ (by omega) ⟨w32, p32_l2, v32, hw, hM, (by omega), (by omega), (by omega), (by omega), (lv_sub hl [1, 2, 3, 0] rfl), rfl⟩
      refine lv_if_eq (tgt := 32) hx hb dX5_pointsOf_20 (by decide) (fun c_20 => ?_) (fun c_20 => ?_)
      · simp only [fa_lt, fa_le, fa_eq, li_0] at c_20
        exact J32 _ _ _ w_1 p4_l2 hw hM (by omega) (by omega) f_a0_X5_0 f_a0_X5_1 (lv_sub hl [0, 1, 2, 3] rfl)
      · simp only [fa_lt, fa_le, fa_eq, li_0] at c_20
        refine lv_iload_n hx hb dX5_pointsOf_23 rfl (lv_at hl 2 rfl) ?_
        refine lv_aload_n hx hb dX5_pointsOf_24 rfl (lv_at hl 0 rfl) ?_
        refine lv_iload_n hx hb dX5_pointsOf_25 rfl (lv_at hl 1 rfl) ?_
        refine lv_iload_n hx hb dX5_pointsOf_26 rfl (lv_at hl 3 rfl) ?_
        refine t_calli (va_runV (As := [.int a1, .int p4_l3]) (rest := [.int p4_l2]) ⟨hx, hb, hml, hown, hts⟩ (t_X5_countWhoWantMore l dC dI tys κ B w_1 hw.2.2.2.2 a0 k_a0 a1 (by omega) (by omega) p4_l3 (by omega) (by omega) H.size) (cwV 2 hts (gUV tw_916 tw_918 ts_2_2 tw_10 tw_919) rfl rfl rfl (by decide +kernel) ⟨(Nat.le_of_ble_eq_true rfl), (Nat.le_of_ble_eq_true rfl)⟩) ⟨cPre.blind, t_recv hw (ci := 5) k_a0 rfl rfl, cPre.use hw.2.1 hw.1 hw.2.2.1 hE⟩ rfl rfl hl.1 rfl (lv_room (Nat.le_of_ble_eq_true rfl)) dX5_pointsOf_27 ⟨(Nat.le_of_ble_eq_true rfl), (Nat.le_of_ble_eq_true rfl)⟩) hw hA (fun _ _ h => h.1) (fun v27 w_2 H locs hp hw => ?_)
        obtain ⟨_, hm⟩ := hp
        have l_v27 := i32_lo v27
        have h_v27 := i32_hi v27
        have hM := hM.trans hm (by decide) (by decide)
        have f_a0_X5_0 := hm.1 _ _ _ _ f_a0_X5_0 (by decide)
        have f_a0_X5_1 := hm.1 _ _ _ _ f_a0_X5_1 (by decide)
        refine lv_iadd hx hb dX5_pointsOf_30 ?_
        refine lv_topi (fun v30 e_v30 => ?_)
        have l_v30 := i32_lo v30
        have h_v30 := i32_hi v30
        refine lv_istore_n (lv' := [(2, .int v30), (0, .ref a0), (1, .int a1), (3, .int p4_l3)]) hx hb dX5_pointsOf_31 rfl hl (by decide) rfl (fun ls hl => ?_)
        exact J32 _ _ _ w_2 v30 hw hM (by omega) (by omega) f_a0_X5_0 f_a0_X5_1 (lv_sub hl [1, 2, 0, 3] rfl)
  exact J4 _ _ _ _ ⟨ws, 0, 0, hw, hM, (by decide), (by decide), (by decide), (by decide), (lv_sub hl [2, 3, 1, 0] rfl), rfl⟩
set_option maxHeartbeats 4000000 in
set_option maxRecDepth 100000 in
theorem t_X5_mostPoints (l : Launch) (dC : Nat → ClassId) (dI : Nat → Nat → Nat) (tys : List (ClassId × FieldType)) (κ : tK) (B : Nat) (ws : va_W) (hT : Ty κ tys B ws) (a0 : Nat) (k_a0 : κ a0 = some 5) (sz : Nat) : Met l yX5_mostPoints (ws_u yX5_mostPoints cX5_mostPoints 4 (some .int)) ({ frames := 3, cells := 0, slots := 0, locals := 70 }) (va_Pc [.ref a0] (cPre (dC, dI) tys ws sz)) (va_Qi (fun (r : Int32) (w : va_W) => (-1) ≤ r.toInt ∧ r.toInt ≤ 5 ∧ Ty κ tys B w ∧ Sm [] [] κ ws w) (fun w t => cPost (dC, dI) tys w (va_A ws sz) t) (va_A ws sz)) 0 0 (va_A ws sz) := by
  refine Met.ofW (cc := cX5_mostPoints) (maxL := 4) (ret := (some .int)) (by decide) rfl ?_
  intro p e s m args below meth c s₁ B0 hml hv
  obtain ⟨rfl, hsz, hP, hK, hD0, hE⟩ := hv
  have hx := B0.exec
  have hb := B0.bytes
  have hr := B0.returns
  have hts0 := atoms_spec (ws := ws_u yX5_mostPoints cX5_mostPoints 4 (some .int)) B0.pre
  have hts : ∀ w ∈ gT, w.before _ s = true := fun w h => hts0 w (List.mem_cons_of_mem _ h)
  have hown : s.vm.findClass RX5 = some m.cls := findClass_of_methodNamed B0.named
  have hlocks := B0.notSynchronized
  subst hsz
  have hD := hD0.self (sz := s.heap.size)
  generalize hAe : va_A ws s.heap.size = A at hD ⊢
  have hA : ∀ q : Nat, s.heap.size ≤ q → A q := fun q h => by rw [← hAe]; exact Or.inr h
  have hw : tW (dC, dI) tys κ B A s ws s.heap [] := ⟨hK, hP, hD, va_S.rf, hT⟩
  have hM : Sm [] [] κ ws ws := Sm.rf
  clear hP hK hD hD0 hts0
  have hl := lv_entry ([.ref a0]) (n := 4) (Nat.le_of_ble_eq_true rfl)
  rw [lg_entry_eq]
  generalize (lg_sl ([.ref a0]) ++ List.replicate (4 - (lg_sl ([.ref a0])).length) Slot.unset).toArray = ls at hl ⊢
  have hl : lv_has ls 4 [(0, .ref a0)] := hl
  refine t_start (fun QQ hQ => ?_)
  refine lv_iconst (v := (-1)) hx hb dX5_mostPoints_0 (by decide) ?_
  refine lv_istore_n (lv' := [(1, .int (-1)), (0, .ref a0)]) hx hb dX5_mostPoints_1 rfl hl (by decide) rfl (fun ls hl => ?_)
  refine lv_iconst (v := (-1)) hx hb dX5_mostPoints_2 (by decide) ?_
  refine lv_istore_n (lv' := [(2, .int (-1)), (1, .int (-1)), (0, .ref a0)]) hx hb dX5_mostPoints_3 rfl hl (by decide) rfl (fun ls hl => ?_)
  refine lv_iconst (v := 0) hx hb dX5_mostPoints_4 (by decide) ?_
  refine lv_istore_n (lv' := [(3, .int 0), (2, .int (-1)), (1, .int (-1)), (0, .ref a0)]) hx hb dX5_mostPoints_5 rfl hl (by decide) rfl (fun ls hl => ?_)
  have J6 : ∀ (n : Nat) (H : Heap) (locs : List Loc) (ls : Array Slot), (∃ (w6 : va_W) (p6_l1 : Int32) (p6_l2 : Int32) (p6_l3 : Int32), tW (dC, dI) tys κ B A s w6 H locs ∧ Sm [] [] κ ws w6 ∧ (-1) ≤ p6_l1.toInt ∧ p6_l1.toInt ≤ 5 ∧ (-2147483648) ≤ p6_l2.toInt ∧ p6_l2.toInt ≤ 2147483647 ∧ 0 ≤ p6_l3.toInt ∧ p6_l3.toInt ≤ 6 ∧ lv_has ls 4 [(0, .ref a0), (1, .int p6_l1), (2, .int p6_l2), (3, .int p6_l3)] ∧ (6 - p6_l3.toInt).toNat = n) → W p l e (headSpec (ws_u yX5_mostPoints cX5_mostPoints 4 (some .int)) ({ frames := 3, cells := 0, slots := 0, locals := 70 })).room s m ([.ref a0] : List Value).toArray below meth c H locs 0 0 QQ (F0 m 6 ls []) := by
    refine loopT _ ?_
    intro n_6 H locs ls hI ih_6
    obtain ⟨w6, p6_l1, p6_l2, p6_l3, hw, hM, l_p6_l1, h_p6_l1, l_p6_l2, h_p6_l2, l_p6_l3, h_p6_l3, hl, hn_6⟩ := hI
    refine lv_iload_n hx hb dX5_mostPoints_6 rfl (lv_at hl 3 rfl) ?_
    refine lv_aload_n hx hb dX5_mostPoints_7 rfl (lv_at hl 0 rfl) ?_
    refine t_geti (ci := 5) (C := RX5) (T := TX5) (N := 8) hx hb hts iX5 hown hw k_a0 rfl rfl rfl 0 (by decide) (hts _ tw_344) (fun _ h9 => h9) dX5_mostPoints_8 rfl (fun v8 l_v8 h_v8 f_a0_X5_0 => ?_)
    have l_v8 : 0 ≤ v8.toInt := l_v8
    have h_v8 : v8.toInt ≤ 6 := h_v8
    refine lv_icmp_ge (tgt := 48) hx hb dX5_mostPoints_11 (by decide) (fun c_11 => ?_) (fun c_11 => ?_)
    · simp only [fa_lt, fa_le, fa_eq] at c_11
      refine lv_iload_n hx hb dX5_mostPoints_48 rfl (lv_at hl 1 rfl) ?_
      rw [hQ]
      refine W.widen (k := 0) (n := 0) (Nat.le_refl _) (Nat.le_refl _) ?_
      exact W.iret (v := p6_l1) hx hb hr (fun t ht hW => ⟨⟨p6_l1, w6, rfl, ⟨(by omega), (by omega), hw.2.2.2.2, hM⟩, by rw [ht]; exact hw.2.1, va_K.moved hW.alike hw.1, hw.2.2.1⟩, hw.2.2.2.1.F ht⟩) hw.2.2.2.1.2.2 dX5_mostPoints_49
    · simp only [fa_lt, fa_le, fa_eq] at c_11
      refine lv_aload_n hx hb dX5_mostPoints_14 rfl (lv_at hl 0 rfl) ?_
      refine t_geti (ci := 5) (C := RX5) (T := TX5) (N := 8) hx hb hts iX5 hown hw k_a0 rfl rfl rfl 1 (by decide) (hts _ tw_345) (fun _ h9 => h9) dX5_mostPoints_15 rfl (fun v15 l_v15 h_v15 f_a0_X5_1 => ?_)
      have l_v15 : (-2147483648) ≤ v15.toInt := l_v15
      have h_v15 : v15.toInt ≤ 2147483647 := h_v15
      refine lv_iload_n hx hb dX5_mostPoints_18 rfl (lv_at hl 3 rfl) ?_
      refine t_calli (va_runS (As := [.int v15, .int p6_l3]) (rest := []) ⟨hx, hb, hml, hown, hts⟩ (t_X5_isIn l dC dI tys κ B w6 hw.2.2.2.2 v15 p6_l3 (by omega) (by omega) H.size) (va_cwS 2 hts (gUS tw_778 tw_779 tw_10 tw_780) rfl rfl rfl (by decide +kernel) ⟨(Nat.le_of_ble_eq_true rfl), (Nat.le_of_ble_eq_true rfl)⟩) ⟨cPre.blind, cPre.use hw.2.1 hw.1 hw.2.2.1 hE⟩ rfl rfl hl.1 rfl (lv_room (Nat.le_of_ble_eq_true rfl)) dX5_mostPoints_19 ⟨(Nat.le_of_ble_eq_true rfl), (Nat.le_of_ble_eq_true rfl)⟩) hw hA (fun _ _ h => h.2.2.1) (fun v19 w_1 H locs hp hw => ?_)
      obtain ⟨l_v19, h_v19, _, hm⟩ := hp
      have hM := hM.trans hm (by decide) (by decide)
      have f_a0_X5_0 := hm.1 _ _ _ _ f_a0_X5_0 (by decide)
      have f_a0_X5_1 := hm.1 _ _ _ _ f_a0_X5_1 (by decide)
      have J42 : ∀ (H : Heap) (locs : List Loc) (ls : Array Slot) (w42 : va_W) (p42_l1 : Int32) (p42_l2 : Int32), tW (dC, dI) tys κ B A s w42 H locs → Sm [] [] κ ws w42 → (-1) ≤ p42_l1.toInt → p42_l1.toInt ≤ 5 → (-2147483648) ≤ p42_l2.toInt → p42_l2.toInt ≤ 2147483647 → fld w42 a0 5 0 (.int v8) → fld w42 a0 5 1 (.int v15) → lv_has ls 4 [(0, .ref a0), (1, .int p42_l1), (2, .int p42_l2), (3, .int p6_l3)] → W p l e (headSpec (ws_u yX5_mostPoints cX5_mostPoints 4 (some .int)) ({ frames := 3, cells := 0, slots := 0, locals := 70 })).room s m ([.ref a0] : List Value).toArray below meth c H locs 0 0 QQ (F0 m 42 ls []) := by
        intro H locs ls w42 p42_l1 p42_l2 hw hM l_p42_l1 h_p42_l1 l_p42_l2 h_p42_l2 f_a0_X5_0 f_a0_X5_1 hl
        obtain ⟨v42, e_v42⟩ : ∃ y : Int32, y = p6_l3 + 1 := ⟨_, rfl⟩
        refine lv_iinc (v := v42) (lv' := [(3, .int v42), (0, .ref a0), (1, .int p42_l1), (2, .int p42_l2)]) hx hb dX5_mostPoints_42 hl (k := 3) rfl e_v42.symm (by decide) rfl (fun ls hl => ?_)
        have e_v42 : v42.toInt = p6_l3.toInt + 1 := ad_i e_v42 rfl li_1 (by omega) (by omega)
        refine lv_goto (tgt := 6) hx hb dX5_mostPoints_45 (by decide) ?_
        exact ih_6 _ _ _ _ (by omega) ⟨w42, p42_l1, p42_l2, v42, hw, hM, (by omega), (by omega), (by omega), (by omega), (by omega), (by omega), (lv_sub hl [1, 2, 3, 0] rfl), rfl⟩
      refine lv_if_eq (tgt := 42) hx hb dX5_mostPoints_22 (by decide) (fun c_22 => ?_) (fun c_22 => ?_)
      · simp only [fa_lt, fa_le, fa_eq, li_0] at c_22
        exact J42 _ _ _ w_1 p6_l1 p6_l2 hw hM (by omega) (by omega) (by omega) (by omega) f_a0_X5_0 f_a0_X5_1 (lv_sub hl [0, 1, 2, 3] rfl)
      · simp only [fa_lt, fa_le, fa_eq, li_0] at c_22
        refine lv_aload_n hx hb dX5_mostPoints_25 rfl (lv_at hl 0 rfl) ?_
        refine lv_iload_n hx hb dX5_mostPoints_26 rfl (lv_at hl 3 rfl) ?_
        refine t_calli (va_runV (As := [.int p6_l3]) (rest := []) ⟨hx, hb, hml, hown, hts⟩ (t_X5_pointsOf l dC dI tys κ B w_1 hw.2.2.2.2 a0 k_a0 p6_l3 (by omega) (by omega) H.size) (cwV 1 hts (gUV tw_912 tw_914 ts_2_1 tw_10 tw_915) rfl rfl rfl (by decide +kernel) ⟨(Nat.le_of_ble_eq_true rfl), (Nat.le_of_ble_eq_true rfl)⟩) ⟨cPre.blind, t_recv hw (ci := 5) k_a0 rfl rfl, cPre.use hw.2.1 hw.1 hw.2.2.1 hE⟩ rfl rfl hl.1 rfl (lv_room (Nat.le_of_ble_eq_true rfl)) dX5_mostPoints_27 ⟨(Nat.le_of_ble_eq_true rfl), (Nat.le_of_ble_eq_true rfl)⟩) hw hA (fun _ _ h => h.1) (fun v27 w_2 H locs hp hw => ?_)
        obtain ⟨_, hm⟩ := hp
        have l_v27 := i32_lo v27
        have h_v27 := i32_hi v27
        have hM := hM.trans hm (by decide) (by decide)
        have f_a0_X5_0 := hm.1 _ _ _ _ f_a0_X5_0 (by decide)
        have f_a0_X5_1 := hm.1 _ _ _ _ f_a0_X5_1 (by decide)
        refine lv_iload_n hx hb dX5_mostPoints_30 rfl (lv_at hl 2 rfl) ?_
        refine lv_icmp_le (tgt := 42) hx hb dX5_mostPoints_31 (by decide) (fun c_31 => ?_) (fun c_31 => ?_)
        · simp only [fa_lt, fa_le, fa_eq] at c_31
          exact J42 _ _ _ w_2 p6_l1 p6_l2 hw hM (by omega) (by omega) (by omega) (by omega) f_a0_X5_0 f_a0_X5_1 (lv_sub hl [0, 1, 2, 3] rfl)
        · simp only [fa_lt, fa_le, fa_eq] at c_31
          refine lv_iload_n hx hb dX5_mostPoints_34 rfl (lv_at hl 3 rfl) ?_
          refine lv_istore_n (lv' := [(1, .int p6_l3), (0, .ref a0), (2, .int p6_l2), (3, .int p6_l3)]) hx hb dX5_mostPoints_35 rfl hl (by decide) rfl (fun ls hl => ?_)
          refine lv_aload_n hx hb dX5_mostPoints_36 rfl (lv_at hl 1 rfl) ?_
          refine lv_iload_n hx hb dX5_mostPoints_37 rfl (lv_at hl 3 rfl) ?_
          refine t_calli (va_runV (As := [.int p6_l3]) (rest := []) ⟨hx, hb, hml, hown, hts⟩ (t_X5_pointsOf l dC dI tys κ B w_2 hw.2.2.2.2 a0 k_a0 p6_l3 (by omega) (by omega) H.size) (cwV 1 hts (gUV tw_912 tw_914 ts_2_1 tw_10 tw_915) rfl rfl rfl (by decide +kernel) ⟨(Nat.le_of_ble_eq_true rfl), (Nat.le_of_ble_eq_true rfl)⟩) ⟨cPre.blind, t_recv hw (ci := 5) k_a0 rfl rfl, cPre.use hw.2.1 hw.1 hw.2.2.1 hE⟩ rfl rfl hl.1 rfl (lv_room (Nat.le_of_ble_eq_true rfl)) dX5_mostPoints_38 ⟨(Nat.le_of_ble_eq_true rfl), (Nat.le_of_ble_eq_true rfl)⟩) hw hA (fun _ _ h => h.1) (fun v38 w_3 H locs hp hw => ?_)
          obtain ⟨_, hm⟩ := hp
          have l_v38 := i32_lo v38
          have h_v38 := i32_hi v38
          have hM := hM.trans hm (by decide) (by decide)
          have f_a0_X5_0 := hm.1 _ _ _ _ f_a0_X5_0 (by decide)
          have f_a0_X5_1 := hm.1 _ _ _ _ f_a0_X5_1 (by decide)
          refine lv_istore_n (lv' := [(2, .int v38), (1, .int p6_l3), (0, .ref a0), (3, .int p6_l3)]) hx hb dX5_mostPoints_41 rfl hl (by decide) rfl (fun ls hl => ?_)
          exact J42 _ _ _ w_3 p6_l3 v38 hw hM (by omega) (by omega) (by omega) (by omega) f_a0_X5_0 f_a0_X5_1 (lv_sub hl [2, 1, 0, 3] rfl)
  exact J6 _ _ _ _ ⟨ws, (-1), (-1), 0, hw, hM, (by decide), (by decide), (by decide), (by decide), (by decide), (by decide), (lv_sub hl [3, 2, 1, 0] rfl), rfl⟩
set_option maxHeartbeats 4000000 in
set_option maxRecDepth 100000 in
theorem t_X11_method (l : Launch) (dC : Nat → ClassId) (dI : Nat → Nat → Nat) (tys : List (ClassId × FieldType)) (κ : tK) (B : Nat) (ws : va_W) (hT : Ty κ tys B ws) (a0 : Nat) (k_a0 : κ a0 = some 11) (a1 : Int32) (sz : Nat) : Met l yX11_method (ws_u yX11_method cX11_method 2 (some .int)) ({ frames := 4, cells := 0, slots := 0, locals := 98 }) (va_Pc [.ref a0, .int a1] (cPre (dC, dI) tys ws sz)) (va_Qi (fun (r : Int32) (w : va_W) => (-2) ≤ r.toInt ∧ r.toInt ≤ 5 ∧ Ty κ tys B w ∧ Sm [(5, 0), (5, 1), (5, 5)] [33, 34, 35, 36, 42] κ ws w) (fun w t => cPost (dC, dI) tys w (va_A ws sz) t) (va_A ws sz)) 0 0 (va_A ws sz) := by
  refine Met.ofW (cc := cX11_method) (maxL := 2) (ret := (some .int)) (by decide) rfl ?_
  intro p e s m args below meth c s₁ B0 hml hv
  obtain ⟨rfl, hsz, hP, hK, hD0, hE⟩ := hv
  have hx := B0.exec
  have hb := B0.bytes
  have hr := B0.returns
  have hts0 := atoms_spec (ws := ws_u yX11_method cX11_method 2 (some .int)) B0.pre
  have hts : ∀ w ∈ gT, w.before _ s = true := fun w h => hts0 w (List.mem_cons_of_mem _ h)
  have hown : s.vm.findClass RX11 = some m.cls := findClass_of_methodNamed B0.named
  have hlocks := B0.notSynchronized
  subst hsz
  have hD := hD0.self (sz := s.heap.size)
  generalize hAe : va_A ws s.heap.size = A at hD ⊢
  have hA : ∀ q : Nat, s.heap.size ≤ q → A q := fun q h => by rw [← hAe]; exact Or.inr h
  have hw : tW (dC, dI) tys κ B A s ws s.heap [] := ⟨hK, hP, hD, va_S.rf, hT⟩
  have hM : Sm [(5, 0), (5, 1), (5, 5)] [33, 34, 35, 36, 42] κ ws ws := Sm.rf
  clear hP hK hD hD0 hts0
  have l_a1 := i32_lo a1
  have h_a1 := i32_hi a1
  have hl := lv_entry ([.ref a0, .int a1]) (n := 2) (Nat.le_of_ble_eq_true rfl)
  rw [lg_entry_eq]
  generalize (lg_sl ([.ref a0, .int a1]) ++ List.replicate (2 - (lg_sl ([.ref a0, .int a1])).length) Slot.unset).toArray = ls at hl ⊢
  have hl : lv_has ls 2 [(0, .ref a0), (1, .int a1)] := hl
  refine t_start (fun QQ hQ => ?_)
  refine lv_aload_n hx hb dX11_method_0 rfl (lv_at hl 0 rfl) ?_
  refine t_getr (k1 := 10) (ci := 11) (C := RX11) (T := TX11) (N := 12) hx hb hts iX11 hown hw k_a0 rfl rfl rfl 5 (by decide) (hts _ tw_428) (fun _ h9 => h9) dX11_method_1 rfl (fun v1 k_v1 f_a0_X11_5 => ?_)
  refine t_getr (k1 := 0) (ci := 10) (C := RX10) (T := TX10) (N := 8) hx hb hts iX10 hown hw k_v1 rfl rfl rfl 0 (by decide) (hts _ tw_282) (fun _ h9 => h9) dX11_method_4 rfl (fun v4 k_v4 f_v1_X10_0 => ?_)
  refine t_geti (ci := 0) (C := RX0) (T := TX0) (N := 16) hx hb hts iX0 hown hw k_v4 rfl rfl rfl 0 (by decide) (hts _ tw_69) (fun _ h9 => h9) dX11_method_7 rfl (fun v7 l_v7 h_v7 f_v4_X0_0 => ?_)
  have l_v7 : 0 ≤ v7.toInt := l_v7
  have h_v7 : v7.toInt ≤ 1 := h_v7
  refine lv_if_eq (tgt := 22) hx hb dX11_method_10 (by decide) (fun c_10 => ?_) (fun c_10 => ?_)
  · simp only [fa_lt, fa_le, fa_eq, li_0] at c_10
    refine lv_bipush (v := (-2)) hx hb dX11_method_22 (by decide) ?_
    rw [hQ]
    refine W.widen (k := 0) (n := 0) (Nat.le_refl _) (Nat.le_refl _) ?_
    exact W.iret (v := (-2)) hx hb hr (fun t ht hW => ⟨⟨(-2), ws, rfl, ⟨(by decide), (by decide), hw.2.2.2.2, hM⟩, by rw [ht]; exact hw.2.1, va_K.moved hW.alike hw.1, hw.2.2.1⟩, hw.2.2.2.1.F ht⟩) hw.2.2.2.1.2.2 dX11_method_24
  · simp only [fa_lt, fa_le, fa_eq, li_0] at c_10
    refine lv_iload_n hx hb dX11_method_13 rfl (lv_at hl 1 rfl) ?_
    refine lv_if_lt (tgt := 22) hx hb dX11_method_14 (by decide) (fun c_14 => ?_) (fun c_14 => ?_)
    · simp only [fa_lt, fa_le, fa_eq, li_0] at c_14
      refine lv_bipush (v := (-2)) hx hb dX11_method_22 (by decide) ?_
      rw [hQ]
      refine W.widen (k := 0) (n := 0) (Nat.le_refl _) (Nat.le_refl _) ?_
      exact W.iret (v := (-2)) hx hb hr (fun t ht hW => ⟨⟨(-2), ws, rfl, ⟨(by decide), (by decide), hw.2.2.2.2, hM⟩, by rw [ht]; exact hw.2.1, va_K.moved hW.alike hw.1, hw.2.2.1⟩, hw.2.2.2.1.F ht⟩) hw.2.2.2.1.2.2 dX11_method_24
    · simp only [fa_lt, fa_le, fa_eq, li_0] at c_14
      refine lv_iload_n hx hb dX11_method_17 rfl (lv_at hl 1 rfl) ?_
      refine lv_iconst (v := 2) hx hb dX11_method_18 (by decide) ?_
      refine lv_icmp_le (tgt := 25) hx hb dX11_method_19 (by decide) (fun c_19 => ?_) (fun c_19 => ?_)
      · simp only [fa_lt, fa_le, fa_eq, li_2] at c_19
        refine lv_aload_n hx hb dX11_method_25 rfl (lv_at hl 0 rfl) ?_
        refine t_getr (k1 := 5) (ci := 11) (C := RX11) (T := TX11) (N := 12) hx hb hts iX11 hown hw k_a0 rfl rfl rfl 8 (by decide) (hts _ tw_431) (fun _ h9 => h9) dX11_method_26 rfl (fun v26 k_v26 f_a0_X11_8 => ?_)
        refine lv_aload_n hx hb dX11_method_29 rfl (lv_at hl 0 rfl) ?_
        refine t_getk (ci := 11) (C := RX11) (T := TX11) (N := 12) hx hb hts iX11 hown hw rfl 5 (by decide) (hts _ tw_428) (fun _ h9 => h9) dX11_method_30 f_a0_X11_5 ?_
        refine t_getk (ci := 10) (C := RX10) (T := TX10) (N := 8) hx hb hts iX10 hown hw rfl 0 (by decide) (hts _ tw_282) (fun _ h9 => h9) dX11_method_33 f_v1_X10_0 ?_
        refine lv_aload_n hx hb dX11_method_36 rfl (lv_at hl 0 rfl) ?_
        refine t_getk (ci := 11) (C := RX11) (T := TX11) (N := 12) hx hb hts iX11 hown hw rfl 5 (by decide) (hts _ tw_428) (fun _ h9 => h9) dX11_method_37 f_a0_X11_5 ?_
        refine t_getr (k1 := 8) (ci := 10) (C := RX10) (T := TX10) (N := 8) hx hb hts iX10 hown hw k_v1 rfl rfl rfl 1 (by decide) (hts _ tw_285) (fun _ h9 => h9) dX11_method_40 rfl (fun v40 k_v40 f_v1_X10_1 => ?_)
        refine lv_aload_n hx hb dX11_method_43 rfl (lv_at hl 0 rfl) ?_
        refine t_callq (va_runV (As := []) (rest := [.ref v40, .ref v4, .ref v26]) ⟨hx, hb, hml, hown, hts⟩ (t_X11_ruleInForce l dC dI tys κ B ws hw.2.2.2.2 a0 k_a0 s.heap.size) (cwV 0 hts (gUV tw_756 tw_758 ts_1_3 tw_1 tw_759) rfl rfl rfl (by decide +kernel) ⟨(Nat.le_of_ble_eq_true rfl), (Nat.le_of_ble_eq_true rfl)⟩) ⟨cPre.blind, t_recv hw (ci := 11) k_a0 rfl rfl, cPre.use hw.2.1 hw.1 hw.2.2.1 hE⟩ rfl rfl hl.1 rfl (lv_room (Nat.le_of_ble_eq_true rfl)) dX11_method_44 ⟨(Nat.le_of_ble_eq_true rfl), (Nat.le_of_ble_eq_true rfl)⟩) hw hA (fun _ _ h => h.2.1) (fun v44 w_1 H locs hp hw => ?_)
        obtain ⟨k_v44, _, hm⟩ := hp
        have hM := hM.trans hm (by decide) (by decide)
        have f_a0_X11_5 := hm.1 _ _ _ _ f_a0_X11_5 (by decide)
        have f_v1_X10_0 := hm.1 _ _ _ _ f_v1_X10_0 (by decide)
        have f_v4_X0_0 := hm.1 _ _ _ _ f_v4_X0_0 (by decide)
        have f_a0_X11_8 := hm.1 _ _ _ _ f_a0_X11_8 (by decide)
        have f_v1_X10_1 := hm.1 _ _ _ _ f_v1_X10_1 (by decide)
        refine t_callv (va_runV (As := [.ref v4, .ref v40, va_rf v44]) (rest := []) ⟨hx, hb, hml, hown, hts⟩ (t_X5_hold l dC dI tys κ B w_1 hw.2.2.2.2 v26 k_v26 v4 k_v4 v40 k_v40 v44 k_v44 H.size) (cwV 3 hts (gUV tw_903 tw_765 tw_766 tw_10 tw_767) rfl rfl rfl (by decide +kernel) ⟨(Nat.le_of_ble_eq_true rfl), (Nat.le_of_ble_eq_true rfl)⟩) ⟨cPre.blind, t_recv hw (ci := 5) k_v26 rfl rfl, cPre.use hw.2.1 hw.1 hw.2.2.1 hE⟩ rfl rfl hl.1 rfl (lv_room (Nat.le_of_ble_eq_true rfl)) dX11_method_47 ⟨(Nat.le_of_ble_eq_true rfl), (Nat.le_of_ble_eq_true rfl)⟩) hw hA (fun _ h => h.1) (fun w_2 H locs hp hw => ?_)
        obtain ⟨_, hm⟩ := hp
        have hM := hM.trans hm (by decide) (by decide)
        have f_a0_X11_5 := hm.1 _ _ _ _ f_a0_X11_5 (by decide)
        have f_v1_X10_0 := hm.1 _ _ _ _ f_v1_X10_0 (by decide)
        have f_v4_X0_0 := hm.1 _ _ _ _ f_v4_X0_0 (by decide)
        have f_a0_X11_8 := hm.1 _ _ _ _ f_a0_X11_8 (by decide)
        have f_v1_X10_1 := hm.1 _ _ _ _ f_v1_X10_1 (by decide)
        refine lv_iload_n hx hb dX11_method_50 rfl (lv_at hl 1 rfl) ?_
        rcases Classical.em (a1.toInt = 0) with c_51_0 | c_51_0
        · refine lv_lookup (off := 25) (tgt := 76) hx hb dX11_method_51 (by decide) (by rw [c_51_0] <;> rfl) (by decide) ?_
          refine lv_aload_n hx hb dX11_method_76 rfl (lv_at hl 0 rfl) ?_
          refine t_getk (ci := 11) (C := RX11) (T := TX11) (N := 12) hx hb hts iX11 hown hw rfl 8 (by decide) (hts _ tw_431) (fun _ h9 => h9) dX11_method_77 f_a0_X11_8 ?_
          refine t_calli (va_runV (As := []) (rest := []) ⟨hx, hb, hml, hown, hts⟩ (t_X5_mostPoints l dC dI tys κ B w_2 hw.2.2.2.2 v26 k_v26 H.size) (cwV 0 hts (gUV tw_908 tw_909 tw_910 tw_10 tw_911) rfl rfl rfl (by decide +kernel) ⟨(Nat.le_of_ble_eq_true rfl), (Nat.le_of_ble_eq_true rfl)⟩) ⟨cPre.blind, t_recv hw (ci := 5) k_v26 rfl rfl, cPre.use hw.2.1 hw.1 hw.2.2.1 hE⟩ rfl rfl hl.1 rfl (lv_room (Nat.le_of_ble_eq_true rfl)) dX11_method_80 ⟨(Nat.le_of_ble_eq_true rfl), (Nat.le_of_ble_eq_true rfl)⟩) hw hA (fun _ _ h => h.2.2.1) (fun v80 w_3 H locs hp hw => ?_)
          obtain ⟨l_v80, h_v80, _, hm⟩ := hp
          have hM := hM.trans hm (by decide) (by decide)
          have f_a0_X11_5 := hm.1 _ _ _ _ f_a0_X11_5 (by decide)
          have f_v1_X10_0 := hm.1 _ _ _ _ f_v1_X10_0 (by decide)
          have f_v4_X0_0 := hm.1 _ _ _ _ f_v4_X0_0 (by decide)
          have f_a0_X11_8 := hm.1 _ _ _ _ f_a0_X11_8 (by decide)
          have f_v1_X10_1 := hm.1 _ _ _ _ f_v1_X10_1 (by decide)
          rw [hQ]
          refine W.widen (k := 0) (n := 0) (Nat.le_refl _) (Nat.le_refl _) ?_
          exact W.iret (v := v80) hx hb hr (fun t ht hW => ⟨⟨v80, w_3, rfl, ⟨(by omega), (by omega), hw.2.2.2.2, hM⟩, by rw [ht]; exact hw.2.1, va_K.moved hW.alike hw.1, hw.2.2.1⟩, hw.2.2.2.1.F ht⟩) hw.2.2.2.1.2.2 dX11_method_83
        rcases Classical.em (a1.toInt = 1) with c_51_1 | c_51_1
        · refine lv_lookup (off := 33) (tgt := 84) hx hb dX11_method_51 (by decide) (by rw [c_51_1] <;> rfl) (by decide) ?_
          refine lv_aload_n hx hb dX11_method_84 rfl (lv_at hl 0 rfl) ?_
          refine t_getk (ci := 11) (C := RX11) (T := TX11) (N := 12) hx hb hts iX11 hown hw rfl 8 (by decide) (hts _ tw_431) (fun _ h9 => h9) dX11_method_85 f_a0_X11_8 ?_
          refine t_calli (va_runV (As := []) (rest := []) ⟨hx, hb, hml, hown, hts⟩ (t_X5_aheadOfEach l dC dI tys κ B w_2 hw.2.2.2.2 v26 k_v26 H.size) (cwV 0 hts (gUV tw_920 tw_921 tw_922 tw_10 tw_923) rfl rfl rfl (by decide +kernel) ⟨(Nat.le_of_ble_eq_true rfl), (Nat.le_of_ble_eq_true rfl)⟩) ⟨cPre.blind, t_recv hw (ci := 5) k_v26 rfl rfl, cPre.use hw.2.1 hw.1 hw.2.2.1 hE⟩ rfl rfl hl.1 rfl (lv_room (Nat.le_of_ble_eq_true rfl)) dX11_method_88 ⟨(Nat.le_of_ble_eq_true rfl), (Nat.le_of_ble_eq_true rfl)⟩) hw hA (fun _ _ h => h.2.2.1) (fun v88 w_4 H locs hp hw => ?_)
          obtain ⟨l_v88, h_v88, _, hm⟩ := hp
          have hM := hM.trans hm (by decide) (by decide)
          have f_a0_X11_5 := hm.1 _ _ _ _ f_a0_X11_5 (by decide)
          have f_v1_X10_0 := hm.1 _ _ _ _ f_v1_X10_0 (by decide)
          have f_v4_X0_0 := hm.1 _ _ _ _ f_v4_X0_0 (by decide)
          have f_a0_X11_8 := hm.1 _ _ _ _ f_a0_X11_8 (by decide)
          have f_v1_X10_1 := hm.1 _ _ _ _ f_v1_X10_1 (by decide)
          rw [hQ]
          refine W.widen (k := 0) (n := 0) (Nat.le_refl _) (Nat.le_refl _) ?_
          exact W.iret (v := v88) hx hb hr (fun t ht hW => ⟨⟨v88, w_4, rfl, ⟨(by omega), (by omega), hw.2.2.2.2, hM⟩, by rw [ht]; exact hw.2.1, va_K.moved hW.alike hw.1, hw.2.2.1⟩, hw.2.2.2.1.F ht⟩) hw.2.2.2.1.2.2 dX11_method_91
        · refine lv_lookup (off := 41) (tgt := 92) hx hb dX11_method_51 (by decide) (by simp only [Op.lookupswitch.offset_cons, eq_false (Ne.symm c_51_0), eq_false (Ne.symm c_51_1), if_false] <;> rfl) (by decide) ?_
          refine lv_aload_n hx hb dX11_method_92 rfl (lv_at hl 0 rfl) ?_
          refine t_getk (ci := 11) (C := RX11) (T := TX11) (N := 12) hx hb hts iX11 hown hw rfl 8 (by decide) (hts _ tw_431) (fun _ h9 => h9) dX11_method_93 f_a0_X11_8 ?_
          refine t_calli (va_runV (As := []) (rest := []) ⟨hx, hb, hml, hown, hts⟩ (t_X5_lastLeft l dC dI tys κ B w_2 hw.2.2.2.2 v26 k_v26 H.size) (cwV 0 hts (gUV tw_928 tw_929 tw_930 tw_10 tw_931) rfl rfl rfl (by decide +kernel) ⟨(Nat.le_of_ble_eq_true rfl), (Nat.le_of_ble_eq_true rfl)⟩) ⟨cPre.blind, t_recv hw (ci := 5) k_v26 rfl rfl, cPre.use hw.2.1 hw.1 hw.2.2.1 hE⟩ rfl rfl hl.1 rfl (lv_room (Nat.le_of_ble_eq_true rfl)) dX11_method_96 ⟨(Nat.le_of_ble_eq_true rfl), (Nat.le_of_ble_eq_true rfl)⟩) hw hA (fun _ _ h => h.2.2.1) (fun v96 w_5 H locs hp hw => ?_)
          obtain ⟨l_v96, h_v96, _, hm⟩ := hp
          have hM := hM.trans hm (by decide) (by decide)
          have f_a0_X11_5 := hm.1 _ _ _ _ f_a0_X11_5 (by decide)
          have f_v1_X10_0 := hm.1 _ _ _ _ f_v1_X10_0 (by decide)
          have f_v4_X0_0 := hm.1 _ _ _ _ f_v4_X0_0 (by decide)
          have f_a0_X11_8 := hm.1 _ _ _ _ f_a0_X11_8 (by decide)
          have f_v1_X10_1 := hm.1 _ _ _ _ f_v1_X10_1 (by decide)
          rw [hQ]
          refine W.widen (k := 0) (n := 0) (Nat.le_refl _) (Nat.le_refl _) ?_
          exact W.iret (v := v96) hx hb hr (fun t ht hW => ⟨⟨v96, w_5, rfl, ⟨(by omega), (by omega), hw.2.2.2.2, hM⟩, by rw [ht]; exact hw.2.1, va_K.moved hW.alike hw.1, hw.2.2.1⟩, hw.2.2.2.1.F ht⟩) hw.2.2.2.1.2.2 dX11_method_99
      · simp only [fa_lt, fa_le, fa_eq, li_2] at c_19
        refine lv_bipush (v := (-2)) hx hb dX11_method_22 (by decide) ?_
        rw [hQ]
        refine W.widen (k := 0) (n := 0) (Nat.le_refl _) (Nat.le_refl _) ?_
        exact W.iret (v := (-2)) hx hb hr (fun t ht hW => ⟨⟨(-2), ws, rfl, ⟨(by decide), (by decide), hw.2.2.2.2, hM⟩, by rw [ht]; exact hw.2.1, va_K.moved hW.alike hw.1, hw.2.2.1⟩, hw.2.2.2.1.F ht⟩) hw.2.2.2.1.2.2 dX11_method_24
set_option maxHeartbeats 4000000 in
set_option maxRecDepth 100000 in
theorem t_X11_note (l : Launch) (dC : Nat → ClassId) (dI : Nat → Nat → Nat) (tys : List (ClassId × FieldType)) (κ : tK) (B : Nat) (ws : va_W) (hT : Ty κ tys B ws) (a0 : Nat) (k_a0 : κ a0 = some 11) (a1 : Int32) (a2 : Int32) (sz : Nat) : Met l yX11_note (ws_u yX11_note cX11_note 3 (some .int)) ({ frames := 1, cells := 0, slots := 0, locals := 21 }) (va_Pc [.ref a0, .int a1, .int a2] (cPre (dC, dI) tys ws sz)) (va_Qi (fun (r : Int32) (w : va_W) => (-2) ≤ r.toInt ∧ r.toInt ≤ 10 ∧ Ty κ tys B w ∧ Sm [(10, 4)] [50, 51] κ ws w) (fun w t => cPost (dC, dI) tys w (va_A ws sz) t) (va_A ws sz)) 0 0 (va_A ws sz) := by
  refine Met.ofW (cc := cX11_note) (maxL := 3) (ret := (some .int)) (by decide) rfl ?_
  intro p e s m args below meth c s₁ B0 hml hv
  obtain ⟨rfl, hsz, hP, hK, hD0, hE⟩ := hv
  have hx := B0.exec
  have hb := B0.bytes
  have hr := B0.returns
  have hts0 := atoms_spec (ws := ws_u yX11_note cX11_note 3 (some .int)) B0.pre
  have hts : ∀ w ∈ gT, w.before _ s = true := fun w h => hts0 w (List.mem_cons_of_mem _ h)
  have hown : s.vm.findClass RX11 = some m.cls := findClass_of_methodNamed B0.named
  have hlocks := B0.notSynchronized
  subst hsz
  have hD := hD0.self (sz := s.heap.size)
  generalize hAe : va_A ws s.heap.size = A at hD ⊢
  have hA : ∀ q : Nat, s.heap.size ≤ q → A q := fun q h => by rw [← hAe]; exact Or.inr h
  have hw : tW (dC, dI) tys κ B A s ws s.heap [] := ⟨hK, hP, hD, va_S.rf, hT⟩
  have hM : Sm [(10, 4)] [50, 51] κ ws ws := Sm.rf
  clear hP hK hD hD0 hts0
  have l_a1 := i32_lo a1
  have h_a1 := i32_hi a1
  have l_a2 := i32_lo a2
  have h_a2 := i32_hi a2
  have hl := lv_entry ([.ref a0, .int a1, .int a2]) (n := 3) (Nat.le_of_ble_eq_true rfl)
  rw [lg_entry_eq]
  generalize (lg_sl ([.ref a0, .int a1, .int a2]) ++ List.replicate (3 - (lg_sl ([.ref a0, .int a1, .int a2])).length) Slot.unset).toArray = ls at hl ⊢
  have hl : lv_has ls 3 [(0, .ref a0), (1, .int a1), (2, .int a2)] := hl
  refine t_start (fun QQ hQ => ?_)
  refine lv_iload_n hx hb dX11_note_0 rfl (lv_at hl 1 rfl) ?_
  refine lv_iconst (v := (-1)) hx hb dX11_note_1 (by decide) ?_
  refine lv_icmp_ne (tgt := 15) hx hb dX11_note_2 (by decide) (fun c_2 => ?_) (fun c_2 => ?_)
  · simp only [fa_lt, fa_le, fa_eq, li_m1] at c_2
    refine lv_aload_n hx hb dX11_note_15 rfl (lv_at hl 0 rfl) ?_
    refine t_getr (k1 := 10) (ci := 11) (C := RX11) (T := TX11) (N := 12) hx hb hts iX11 hown hw k_a0 rfl rfl rfl 5 (by decide) (hts _ tw_428) (fun _ h9 => h9) dX11_note_16 rfl (fun v16 k_v16 f_a0_X11_5 => ?_)
    refine t_getr (k1 := 0) (ci := 10) (C := RX10) (T := TX10) (N := 8) hx hb hts iX10 hown hw k_v16 rfl rfl rfl 0 (by decide) (hts _ tw_282) (fun _ h9 => h9) dX11_note_19 rfl (fun v19 k_v19 f_v16_X10_0 => ?_)
    refine t_geti (ci := 0) (C := RX0) (T := TX0) (N := 16) hx hb hts iX0 hown hw k_v19 rfl rfl rfl 0 (by decide) (hts _ tw_69) (fun _ h9 => h9) dX11_note_22 rfl (fun v22 l_v22 h_v22 f_v19_X0_0 => ?_)
    have l_v22 : 0 ≤ v22.toInt := l_v22
    have h_v22 : v22.toInt ≤ 1 := h_v22
    refine lv_if_eq (tgt := 63) hx hb dX11_note_25 (by decide) (fun c_25 => ?_) (fun c_25 => ?_)
    · simp only [fa_lt, fa_le, fa_eq, li_0] at c_25
      refine lv_bipush (v := (-2)) hx hb dX11_note_63 (by decide) ?_
      rw [hQ]
      refine W.widen (k := 0) (n := 0) (Nat.le_refl _) (Nat.le_refl _) ?_
      exact W.iret (v := (-2)) hx hb hr (fun t ht hW => ⟨⟨(-2), ws, rfl, ⟨(by decide), (by decide), hw.2.2.2.2, hM⟩, by rw [ht]; exact hw.2.1, va_K.moved hW.alike hw.1, hw.2.2.1⟩, hw.2.2.2.1.F ht⟩) hw.2.2.2.1.2.2 dX11_note_65
    · simp only [fa_lt, fa_le, fa_eq, li_0] at c_25
      refine lv_iload_n hx hb dX11_note_28 rfl (lv_at hl 1 rfl) ?_
      refine lv_if_lt (tgt := 63) hx hb dX11_note_29 (by decide) (fun c_29 => ?_) (fun c_29 => ?_)
      · simp only [fa_lt, fa_le, fa_eq, li_0] at c_29
        refine lv_bipush (v := (-2)) hx hb dX11_note_63 (by decide) ?_
        rw [hQ]
        refine W.widen (k := 0) (n := 0) (Nat.le_refl _) (Nat.le_refl _) ?_
        exact W.iret (v := (-2)) hx hb hr (fun t ht hW => ⟨⟨(-2), ws, rfl, ⟨(by decide), (by decide), hw.2.2.2.2, hM⟩, by rw [ht]; exact hw.2.1, va_K.moved hW.alike hw.1, hw.2.2.1⟩, hw.2.2.2.1.F ht⟩) hw.2.2.2.1.2.2 dX11_note_65
      · simp only [fa_lt, fa_le, fa_eq, li_0] at c_29
        refine lv_iload_n hx hb dX11_note_32 rfl (lv_at hl 1 rfl) ?_
        refine lv_bipush (v := 60) hx hb dX11_note_33 (by decide) ?_
        refine lv_icmp_gt (tgt := 63) hx hb dX11_note_35 (by decide) (fun c_35 => ?_) (fun c_35 => ?_)
        · simp only [fa_lt, fa_le, fa_eq, li_60] at c_35
          refine lv_bipush (v := (-2)) hx hb dX11_note_63 (by decide) ?_
          rw [hQ]
          refine W.widen (k := 0) (n := 0) (Nat.le_refl _) (Nat.le_refl _) ?_
          exact W.iret (v := (-2)) hx hb hr (fun t ht hW => ⟨⟨(-2), ws, rfl, ⟨(by decide), (by decide), hw.2.2.2.2, hM⟩, by rw [ht]; exact hw.2.1, va_K.moved hW.alike hw.1, hw.2.2.1⟩, hw.2.2.2.1.F ht⟩) hw.2.2.2.1.2.2 dX11_note_65
        · simp only [fa_lt, fa_le, fa_eq, li_60] at c_35
          refine lv_iload_n hx hb dX11_note_38 rfl (lv_at hl 2 rfl) ?_
          refine lv_iconst (v := (-1)) hx hb dX11_note_39 (by decide) ?_
          have J51 : ∀ (H : Heap) (locs : List Loc) (ls : Array Slot) (w51 : va_W), tW (dC, dI) tys κ B A s w51 H locs → Sm [(10, 4)] [50, 51] κ ws w51 → fld w51 a0 11 5 (.ref v16) → fld w51 v16 10 0 (.ref v19) → fld w51 v19 0 0 (.int v22) → lv_has ls 3 [(0, .ref a0), (1, .int a1), (2, .int a2)] → W p l e (headSpec (ws_u yX11_note cX11_note 3 (some .int)) ({ frames := 1, cells := 0, slots := 0, locals := 21 })).room s m ([.ref a0, .int a1, .int a2] : List Value).toArray below meth c H locs 0 0 QQ (F0 m 51 ls []) := by
            intro H locs ls w51 hw hM f_a0_X11_5 f_v16_X10_0 f_v19_X0_0 hl
            refine lv_aload_n hx hb dX11_note_51 rfl (lv_at hl 0 rfl) ?_
            refine t_getk (ci := 11) (C := RX11) (T := TX11) (N := 12) hx hb hts iX11 hown hw rfl 5 (by decide) (hts _ tw_428) (fun _ h9 => h9) dX11_note_52 f_a0_X11_5 ?_
            refine t_geti (ci := 10) (C := RX10) (T := TX10) (N := 8) hx hb hts iX10 hown hw k_v16 rfl rfl rfl 4 (by decide) (hts _ tw_292) (fun _ h9 => h9) dX11_note_55 rfl (fun v55 l_v55 h_v55 f_v16_X10_4 => ?_)
            have l_v55 : 0 ≤ v55.toInt := l_v55
            have h_v55 : v55.toInt ≤ 10 := h_v55
            refine lv_bipush (v := 10) hx hb dX11_note_58 (by decide) ?_
            refine lv_icmp_lt (tgt := 66) hx hb dX11_note_60 (by decide) (fun c_60 => ?_) (fun c_60 => ?_)
            · simp only [fa_lt, fa_le, fa_eq, li_10] at c_60
              refine lv_aload_n hx hb dX11_note_66 rfl (lv_at hl 0 rfl) ?_
              refine t_getk (ci := 11) (C := RX11) (T := TX11) (N := 12) hx hb hts iX11 hown hw rfl 5 (by decide) (hts _ tw_428) (fun _ h9 => h9) dX11_note_67 f_a0_X11_5 ?_
              refine t_getr (k1 := 50) (ci := 10) (C := RX10) (T := TX10) (N := 8) hx hb hts iX10 hown hw k_v16 rfl rfl rfl 5 (by decide) (hts _ tw_295) (fun _ h9 => h9) dX11_note_70 rfl (fun v70 k_v70 f_v16_X10_5 => ?_)
              refine lv_aload_n hx hb dX11_note_73 rfl (lv_at hl 0 rfl) ?_
              refine t_getk (ci := 11) (C := RX11) (T := TX11) (N := 12) hx hb hts iX11 hown hw rfl 5 (by decide) (hts _ tw_428) (fun _ h9 => h9) dX11_note_74 f_a0_X11_5 ?_
              refine t_getk (ci := 10) (C := RX10) (T := TX10) (N := 8) hx hb hts iX10 hown hw rfl 4 (by decide) (hts _ tw_292) (fun _ h9 => h9) dX11_note_77 f_v16_X10_4 ?_
              refine lv_iload_n hx hb dX11_note_80 rfl (lv_at hl 1 rfl) ?_
              refine t_iast hx hb hw k_v70 rfl rfl (by omega) (show v55.toInt < 10 by omega) (show 0 ≤ a1.toInt by omega) (show a1.toInt ≤ 60 by omega) dX11_note_81 (fun w_1 H locs hw u => ?_)
              have hM := hM.up3 u k_v70 (by decide)
              have f_a0_X11_5 := u.1 _ _ _ _ f_a0_X11_5
              have f_v16_X10_0 := u.1 _ _ _ _ f_v16_X10_0
              have f_v19_X0_0 := u.1 _ _ _ _ f_v19_X0_0
              have f_v16_X10_4 := u.1 _ _ _ _ f_v16_X10_4
              have f_v16_X10_5 := u.1 _ _ _ _ f_v16_X10_5
              refine lv_aload_n hx hb dX11_note_82 rfl (lv_at hl 0 rfl) ?_
              refine t_getk (ci := 11) (C := RX11) (T := TX11) (N := 12) hx hb hts iX11 hown hw rfl 5 (by decide) (hts _ tw_428) (fun _ h9 => h9) dX11_note_83 f_a0_X11_5 ?_
              refine t_getr (k1 := 51) (ci := 10) (C := RX10) (T := TX10) (N := 8) hx hb hts iX10 hown hw k_v16 rfl rfl rfl 6 (by decide) (hts _ tw_298) (fun _ h9 => h9) dX11_note_86 rfl (fun v86 k_v86 f_v16_X10_6 => ?_)
              refine lv_aload_n hx hb dX11_note_89 rfl (lv_at hl 0 rfl) ?_
              refine t_getk (ci := 11) (C := RX11) (T := TX11) (N := 12) hx hb hts iX11 hown hw rfl 5 (by decide) (hts _ tw_428) (fun _ h9 => h9) dX11_note_90 f_a0_X11_5 ?_
              refine t_getk (ci := 10) (C := RX10) (T := TX10) (N := 8) hx hb hts iX10 hown hw rfl 4 (by decide) (hts _ tw_292) (fun _ h9 => h9) dX11_note_93 f_v16_X10_4 ?_
              refine lv_iload_n hx hb dX11_note_96 rfl (lv_at hl 2 rfl) ?_
              refine t_iast hx hb hw k_v86 rfl rfl (by omega) (show v55.toInt < 10 by omega) (i32_lo _) (i32_hi _) dX11_note_97 (fun w_2 H locs hw u => ?_)
              have hM := hM.up3 u k_v86 (by decide)
              have f_a0_X11_5 := u.1 _ _ _ _ f_a0_X11_5
              have f_v16_X10_0 := u.1 _ _ _ _ f_v16_X10_0
              have f_v19_X0_0 := u.1 _ _ _ _ f_v19_X0_0
              have f_v16_X10_4 := u.1 _ _ _ _ f_v16_X10_4
              have f_v16_X10_5 := u.1 _ _ _ _ f_v16_X10_5
              have f_v16_X10_6 := u.1 _ _ _ _ f_v16_X10_6
              refine lv_aload_n hx hb dX11_note_98 rfl (lv_at hl 0 rfl) ?_
              refine t_getk (ci := 11) (C := RX11) (T := TX11) (N := 12) hx hb hts iX11 hown hw rfl 5 (by decide) (hts _ tw_428) (fun _ h9 => h9) dX11_note_99 f_a0_X11_5 ?_
              refine lv_dup hx hb dX11_note_102 rfl ?_
              refine t_getk (ci := 10) (C := RX10) (T := TX10) (N := 8) hx hb hts iX10 hown hw rfl 4 (by decide) (hts _ tw_292) (fun _ h9 => h9) dX11_note_103 f_v16_X10_4 ?_
              refine lv_iconst (v := 1) hx hb dX11_note_106 (by decide) ?_
              refine lv_iadd hx hb dX11_note_107 ?_
              refine lv_topi (fun v107 e_v107 => ?_)
              have e_v107 : v107.toInt = v55.toInt + 1 := ad_i e_v107 rfl li_1 (by omega) (by omega)
              refine t_put (ci := 10) (C := RX10) (T := TX10) (N := 8) (v := .int v107) hx hb hts iX10 tyX10 tyX10_ok nmX10 hown hw k_v16 rfl rfl rfl 4 (by decide) (hts _ tw_292) (fun _ h9 => h9) rfl (tyX10_ok 4 (by decide)) rfl rfl (okV.int rfl (by omega) (by omega)) dX11_note_108 (fun w_3 H locs hw u => ?_)
              have hM := hM.up1 u (by decide)
              have f_a0_X11_5 := u.1 _ _ _ _ f_a0_X11_5 (Or.inr (Or.inl (by decide)))
              have f_v16_X10_0 := u.1 _ _ _ _ f_v16_X10_0 (Or.inr (Or.inr (by decide)))
              have f_v19_X0_0 := u.1 _ _ _ _ f_v19_X0_0 (Or.inr (Or.inl (by decide)))
              have f_v16_X10_4 := u.2.2
              have f_v16_X10_5 := u.1 _ _ _ _ f_v16_X10_5 (Or.inr (Or.inr (by decide)))
              have f_v16_X10_6 := u.1 _ _ _ _ f_v16_X10_6 (Or.inr (Or.inr (by decide)))
              refine lv_aload_n hx hb dX11_note_111 rfl (lv_at hl 0 rfl) ?_
              refine t_getk (ci := 11) (C := RX11) (T := TX11) (N := 12) hx hb hts iX11 hown hw rfl 5 (by decide) (hts _ tw_428) (fun _ h9 => h9) dX11_note_112 f_a0_X11_5 ?_
              refine t_getk (ci := 10) (C := RX10) (T := TX10) (N := 8) hx hb hts iX10 hown hw rfl 4 (by decide) (hts _ tw_292) (fun _ h9 => h9) dX11_note_115 f_v16_X10_4 ?_
              rw [hQ]
              refine W.widen (k := 0) (n := 0) (Nat.le_refl _) (Nat.le_refl _) ?_
              exact W.iret (v := v107) hx hb hr (fun t ht hW => ⟨⟨v107, w_3, rfl, ⟨(by omega), (by omega), hw.2.2.2.2, hM⟩, by rw [ht]; exact hw.2.1, va_K.moved hW.alike hw.1, hw.2.2.1⟩, hw.2.2.2.1.F ht⟩) hw.2.2.2.1.2.2 dX11_note_118
            · simp only [fa_lt, fa_le, fa_eq, li_10] at c_60
              refine lv_bipush (v := (-2)) hx hb dX11_note_63 (by decide) ?_
              rw [hQ]
              refine W.widen (k := 0) (n := 0) (Nat.le_refl _) (Nat.le_refl _) ?_
              exact W.iret (v := (-2)) hx hb hr (fun t ht hW => ⟨⟨(-2), w51, rfl, ⟨(by decide), (by decide), hw.2.2.2.2, hM⟩, by rw [ht]; exact hw.2.1, va_K.moved hW.alike hw.1, hw.2.2.1⟩, hw.2.2.2.1.F ht⟩) hw.2.2.2.1.2.2 dX11_note_65
          refine lv_icmp_eq (tgt := 51) hx hb dX11_note_40 (by decide) (fun c_40 => ?_) (fun c_40 => ?_)
          · simp only [fa_lt, fa_le, fa_eq, li_m1] at c_40
            exact J51 _ _ _ ws hw hM f_a0_X11_5 f_v16_X10_0 f_v19_X0_0 (lv_sub hl [0, 1, 2] rfl)
          · simp only [fa_lt, fa_le, fa_eq, li_m1] at c_40
            refine lv_aload_n hx hb dX11_note_43 rfl (lv_at hl 0 rfl) ?_
            refine lv_iload_n hx hb dX11_note_44 rfl (lv_at hl 2 rfl) ?_
            refine t_calli (va_runV (As := [.int a2]) (rest := []) ⟨hx, hb, hml, hown, hts⟩ (t_X11_isBoy l dC dI tys κ B ws hw.2.2.2.2 a0 k_a0 a2 s.heap.size) (cwV 1 hts (gUV tw_710 tw_712 ts_0_15 tw_1 tw_713) rfl rfl rfl (by decide +kernel) ⟨(Nat.le_of_ble_eq_true rfl), (Nat.le_of_ble_eq_true rfl)⟩) ⟨cPre.blind, t_recv hw (ci := 11) k_a0 rfl rfl, cPre.use hw.2.1 hw.1 hw.2.2.1 hE⟩ rfl rfl hl.1 rfl (lv_room (Nat.le_of_ble_eq_true rfl)) dX11_note_45 ⟨(Nat.le_of_ble_eq_true rfl), (Nat.le_of_ble_eq_true rfl)⟩) hw hA (fun _ _ h => h.2.2.1) (fun v45 w_4 H locs hp hw => ?_)
            obtain ⟨l_v45, h_v45, _, hm, x_v45_0⟩ := hp
            have hM := hM.trans hm (by decide) (by decide)
            have f_a0_X11_5 := hm.1 _ _ _ _ f_a0_X11_5 (by decide)
            have f_v16_X10_0 := hm.1 _ _ _ _ f_v16_X10_0 (by decide)
            have f_v19_X0_0 := hm.1 _ _ _ _ f_v19_X0_0 (by decide)
            refine lv_if_eq (tgt := 63) hx hb dX11_note_48 (by decide) (fun c_48 => ?_) (fun c_48 => ?_)
            · simp only [fa_lt, fa_le, fa_eq, li_0] at c_48
              refine lv_bipush (v := (-2)) hx hb dX11_note_63 (by decide) ?_
              rw [hQ]
              refine W.widen (k := 0) (n := 0) (Nat.le_refl _) (Nat.le_refl _) ?_
              exact W.iret (v := (-2)) hx hb hr (fun t ht hW => ⟨⟨(-2), w_4, rfl, ⟨(by decide), (by decide), hw.2.2.2.2, hM⟩, by rw [ht]; exact hw.2.1, va_K.moved hW.alike hw.1, hw.2.2.1⟩, hw.2.2.2.1.F ht⟩) hw.2.2.2.1.2.2 dX11_note_65
            · simp only [fa_lt, fa_le, fa_eq, li_0] at c_48
              exact J51 _ _ _ w_4 hw hM f_a0_X11_5 f_v16_X10_0 f_v19_X0_0 (lv_sub hl [0, 1, 2] rfl)
  · simp only [fa_lt, fa_le, fa_eq, li_m1] at c_2
    refine lv_aload_n hx hb dX11_note_5 rfl (lv_at hl 0 rfl) ?_
    refine t_getr (k1 := 10) (ci := 11) (C := RX11) (T := TX11) (N := 12) hx hb hts iX11 hown hw k_a0 rfl rfl rfl 5 (by decide) (hts _ tw_428) (fun _ h9 => h9) dX11_note_6 rfl (fun v6 k_v6 f_a0_X11_5 => ?_)
    refine lv_iconst (v := 0) hx hb dX11_note_9 (by decide) ?_
    refine t_put (ci := 10) (C := RX10) (T := TX10) (N := 8) (v := .int 0) hx hb hts iX10 tyX10 tyX10_ok nmX10 hown hw k_v6 rfl rfl rfl 4 (by decide) (hts _ tw_292) (fun _ h9 => h9) rfl (tyX10_ok 4 (by decide)) rfl rfl (okV.int rfl (by decide) (by decide)) dX11_note_10 (fun w_5 H locs hw u => ?_)
    have hM := hM.up1 u (by decide)
    have f_a0_X11_5 := u.1 _ _ _ _ f_a0_X11_5 (Or.inr (Or.inl (by decide)))
    have f_v6_X10_4 := u.2.2
    refine lv_iconst (v := 0) hx hb dX11_note_13 (by decide) ?_
    rw [hQ]
    refine W.widen (k := 0) (n := 0) (Nat.le_refl _) (Nat.le_refl _) ?_
    exact W.iret (v := 0) hx hb hr (fun t ht hW => ⟨⟨0, w_5, rfl, ⟨(by decide), (by decide), hw.2.2.2.2, hM⟩, by rw [ht]; exact hw.2.1, va_K.moved hW.alike hw.1, hw.2.2.1⟩, hw.2.2.2.1.F ht⟩) hw.2.2.2.1.2.2 dX11_note_14
set_option maxHeartbeats 4000000 in
set_option maxRecDepth 100000 in
theorem t_X11_promise (l : Launch) (dC : Nat → ClassId) (dI : Nat → Nat → Nat) (tys : List (ClassId × FieldType)) (κ : tK) (B : Nat) (ws : va_W) (hT : Ty κ tys B ws) (a0 : Nat) (k_a0 : κ a0 = some 11) (a1 : Int32) (a2 : Int32) (sz : Nat) : Met l yX11_promise (ws_u yX11_promise cX11_promise 4 (some .int)) ({ frames := 3, cells := 0, slots := 0, locals := 102 }) (va_Pc [.ref a0, .int a1, .int a2] (cPre (dC, dI) tys ws sz)) (va_Qi (fun (r : Int32) (w : va_W) => Ty κ tys B w ∧ Sm [(4, 1), (4, 2), (8, 0), (8, 1), (8, 2), (8, 3), (8, 4), (8, 5), (8, 6)] [43, 44, 45, 46, 47, 48] κ ws w) (fun w t => cPost (dC, dI) tys w (va_A ws sz) t) (va_A ws sz)) 0 0 (va_A ws sz) := by
  refine Met.ofW (cc := cX11_promise) (maxL := 4) (ret := (some .int)) (by decide) rfl ?_
  intro p e s m args below meth c s₁ B0 hml hv
  obtain ⟨rfl, hsz, hP, hK, hD0, hE⟩ := hv
  have hx := B0.exec
  have hb := B0.bytes
  have hr := B0.returns
  have hts0 := atoms_spec (ws := ws_u yX11_promise cX11_promise 4 (some .int)) B0.pre
  have hts : ∀ w ∈ gT, w.before _ s = true := fun w h => hts0 w (List.mem_cons_of_mem _ h)
  have hown : s.vm.findClass RX11 = some m.cls := findClass_of_methodNamed B0.named
  have hlocks := B0.notSynchronized
  subst hsz
  have hD := hD0.self (sz := s.heap.size)
  generalize hAe : va_A ws s.heap.size = A at hD ⊢
  have hA : ∀ q : Nat, s.heap.size ≤ q → A q := fun q h => by rw [← hAe]; exact Or.inr h
  have hw : tW (dC, dI) tys κ B A s ws s.heap [] := ⟨hK, hP, hD, va_S.rf, hT⟩
  have hM : Sm [(4, 1), (4, 2), (8, 0), (8, 1), (8, 2), (8, 3), (8, 4), (8, 5), (8, 6)] [43, 44, 45, 46, 47, 48] κ ws ws := Sm.rf
  clear hP hK hD hD0 hts0
  have l_a1 := i32_lo a1
  have h_a1 := i32_hi a1
  have l_a2 := i32_lo a2
  have h_a2 := i32_hi a2
  have hl := lv_entry ([.ref a0, .int a1, .int a2]) (n := 4) (Nat.le_of_ble_eq_true rfl)
  rw [lg_entry_eq]
  generalize (lg_sl ([.ref a0, .int a1, .int a2]) ++ List.replicate (4 - (lg_sl ([.ref a0, .int a1, .int a2])).length) Slot.unset).toArray = ls at hl ⊢
  have hl : lv_has ls 4 [(0, .ref a0), (1, .int a1), (2, .int a2)] := hl
  refine t_start (fun QQ hQ => ?_)
  refine lv_aload_n hx hb dX11_promise_0 rfl (lv_at hl 0 rfl) ?_
  refine lv_iload_n hx hb dX11_promise_1 rfl (lv_at hl 1 rfl) ?_
  refine t_calli (va_runV (As := [.int a1]) (rest := []) ⟨hx, hb, hml, hown, hts⟩ (t_X11_isBoy l dC dI tys κ B ws hw.2.2.2.2 a0 k_a0 a1 s.heap.size) (cwV 1 hts (gUV tw_710 tw_712 ts_0_15 tw_1 tw_713) rfl rfl rfl (by decide +kernel) ⟨(Nat.le_of_ble_eq_true rfl), (Nat.le_of_ble_eq_true rfl)⟩) ⟨cPre.blind, t_recv hw (ci := 11) k_a0 rfl rfl, cPre.use hw.2.1 hw.1 hw.2.2.1 hE⟩ rfl rfl hl.1 rfl (lv_room (Nat.le_of_ble_eq_true rfl)) dX11_promise_2 ⟨(Nat.le_of_ble_eq_true rfl), (Nat.le_of_ble_eq_true rfl)⟩) hw hA (fun _ _ h => h.2.2.1) (fun v2 w_1 H locs hp hw => ?_)
  obtain ⟨l_v2, h_v2, _, hm, x_v2_0⟩ := hp
  have hM := hM.trans hm (by decide) (by decide)
  refine lv_if_eq (tgt := 18) hx hb dX11_promise_5 (by decide) (fun c_5 => ?_) (fun c_5 => ?_)
  · simp only [fa_lt, fa_le, fa_eq, li_0] at c_5
    refine lv_iconst (v := (-1)) hx hb dX11_promise_18 (by decide) ?_
    rw [hQ]
    refine W.widen (k := 0) (n := 0) (Nat.le_refl _) (Nat.le_refl _) ?_
    exact W.iret (v := (-1)) hx hb hr (fun t ht hW => ⟨⟨(-1), w_1, rfl, ⟨hw.2.2.2.2, hM⟩, by rw [ht]; exact hw.2.1, va_K.moved hW.alike hw.1, hw.2.2.1⟩, hw.2.2.2.1.F ht⟩) hw.2.2.2.1.2.2 dX11_promise_19
  · simp only [fa_lt, fa_le, fa_eq, li_0] at c_5
    refine lv_iload_n hx hb dX11_promise_8 rfl (lv_at hl 2 rfl) ?_
    refine lv_if_lt (tgt := 18) hx hb dX11_promise_9 (by decide) (fun c_9 => ?_) (fun c_9 => ?_)
    · simp only [fa_lt, fa_le, fa_eq, li_0] at c_9
      refine lv_iconst (v := (-1)) hx hb dX11_promise_18 (by decide) ?_
      rw [hQ]
      refine W.widen (k := 0) (n := 0) (Nat.le_refl _) (Nat.le_refl _) ?_
      exact W.iret (v := (-1)) hx hb hr (fun t ht hW => ⟨⟨(-1), w_1, rfl, ⟨hw.2.2.2.2, hM⟩, by rw [ht]; exact hw.2.1, va_K.moved hW.alike hw.1, hw.2.2.1⟩, hw.2.2.2.1.F ht⟩) hw.2.2.2.1.2.2 dX11_promise_19
    · simp only [fa_lt, fa_le, fa_eq, li_0] at c_9
      refine lv_iload_n hx hb dX11_promise_12 rfl (lv_at hl 2 rfl) ?_
      refine lv_bipush (v := 20) hx hb dX11_promise_13 (by decide) ?_
      refine lv_icmp_le (tgt := 20) hx hb dX11_promise_15 (by decide) (fun c_15 => ?_) (fun c_15 => ?_)
      · simp only [fa_lt, fa_le, fa_eq, li_20] at c_15
        refine lv_aload_n hx hb dX11_promise_20 rfl (lv_at hl 0 rfl) ?_
        refine t_getr (k1 := 10) (ci := 11) (C := RX11) (T := TX11) (N := 12) hx hb hts iX11 hown hw k_a0 rfl rfl rfl 5 (by decide) (hts _ tw_428) (fun _ h9 => h9) dX11_promise_21 rfl (fun v21 k_v21 f_a0_X11_5 => ?_)
        refine t_getr (k1 := 8) (ci := 10) (C := RX10) (T := TX10) (N := 8) hx hb hts iX10 hown hw k_v21 rfl rfl rfl 1 (by decide) (hts _ tw_285) (fun _ h9 => h9) dX11_promise_24 rfl (fun v24 k_v24 f_v21_X10_1 => ?_)
        refine t_getr (k1 := 44) (ci := 8) (C := RX8) (T := TX8) (N := 13) hx hb hts iX8 hown hw k_v24 rfl rfl rfl 8 (by decide) (hts _ tw_244) (fun _ h9 => h9) dX11_promise_27 rfl (fun v27 k_v27 f_v24_X8_8 => ?_)
        refine lv_iload_n hx hb dX11_promise_30 rfl (lv_at hl 1 rfl) ?_
        refine t_iald hx hb hw k_v27 rfl rfl (by omega) (show a1.toInt < 6 by omega) dX11_promise_31 (fun v31 r_v31 s_v31 q_v31 => ?_)
        have l_v31 := i32_lo v31
        have h_v31 := i32_hi v31
        refine lv_istore_n (lv' := [(3, .int v31), (0, .ref a0), (1, .int a1), (2, .int a2)]) hx hb dX11_promise_32 rfl hl (by decide) rfl (fun ls hl => ?_)
        refine lv_iload_n hx hb dX11_promise_33 rfl (lv_at hl 3 rfl) ?_
        refine lv_iload_n hx hb dX11_promise_34 rfl (lv_at hl 0 rfl) ?_
        refine lv_icmp_ne (tgt := 40) hx hb dX11_promise_35 (by decide) (fun c_35 => ?_) (fun c_35 => ?_)
        · simp only [fa_lt, fa_le, fa_eq] at c_35
          refine lv_aload_n hx hb dX11_promise_40 rfl (lv_at hl 1 rfl) ?_
          refine t_getr (k1 := 4) (ci := 11) (C := RX11) (T := TX11) (N := 12) hx hb hts iX11 hown hw k_a0 rfl rfl rfl 7 (by decide) (hts _ tw_430) (fun _ h9 => h9) dX11_promise_41 rfl (fun v41 k_v41 f_a0_X11_7 => ?_)
          refine lv_aload_n hx hb dX11_promise_44 rfl (lv_at hl 1 rfl) ?_
          refine t_getk (ci := 11) (C := RX11) (T := TX11) (N := 12) hx hb hts iX11 hown hw rfl 5 (by decide) (hts _ tw_428) (fun _ h9 => h9) dX11_promise_45 f_a0_X11_5 ?_
          refine t_getk (ci := 10) (C := RX10) (T := TX10) (N := 8) hx hb hts iX10 hown hw rfl 1 (by decide) (hts _ tw_285) (fun _ h9 => h9) dX11_promise_48 f_v21_X10_1 ?_
          obtain ⟨u_v51q0, q_v51q0, f_v24_X8_1⟩ := t_peek (k := 1) hw.2.2.2.2 k_v24 rfl (by decide)
          obtain ⟨v51q0, rfl, l_v51q0, h_v51q0⟩ := q_v51q0.geti (lo := (-1)) (hi := 5) rfl
          refine t_callv (va_runV (As := [.ref v24]) (rest := []) ⟨hx, hb, hml, hown, hts⟩ (t_X4_keep l dC dI tys κ B w_1 hw.2.2.2.2 v41 k_v41 v24 k_v24 v51q0 (by omega) (by omega) f_v24_X8_1 H.size) (cwV 1 hts (gUV tw_747 tw_748 tw_749 tw_9 tw_750) rfl rfl rfl (by decide +kernel) ⟨(Nat.le_of_ble_eq_true rfl), (Nat.le_of_ble_eq_true rfl)⟩) ⟨cPre.blind, t_recv hw (ci := 4) k_v41 rfl rfl, cPre.use hw.2.1 hw.1 hw.2.2.1 hE⟩ rfl rfl hl.1 rfl (lv_room (Nat.le_of_ble_eq_true rfl)) dX11_promise_51 ⟨(Nat.le_of_ble_eq_true rfl), (Nat.le_of_ble_eq_true rfl)⟩) hw hA (fun _ h => h.1) (fun w_2 H locs hp hw => ?_)
          obtain ⟨_, hm, f_v24_X8_1⟩ := hp
          have hM := hM.trans hm (by decide) (by decide)
          have f_a0_X11_5 := hm.1 _ _ _ _ f_a0_X11_5 (by decide)
          have f_v21_X10_1 := hm.1 _ _ _ _ f_v21_X10_1 (by decide)
          have f_v24_X8_8 := hm.1 _ _ _ _ f_v24_X8_8 (by decide)
          have f_a0_X11_7 := hm.1 _ _ _ _ f_a0_X11_7 (by decide)
          refine lv_aload_n hx hb dX11_promise_54 rfl (lv_at hl 1 rfl) ?_
          refine t_getk (ci := 11) (C := RX11) (T := TX11) (N := 12) hx hb hts iX11 hown hw rfl 5 (by decide) (hts _ tw_428) (fun _ h9 => h9) dX11_promise_55 f_a0_X11_5 ?_
          refine t_getk (ci := 10) (C := RX10) (T := TX10) (N := 8) hx hb hts iX10 hown hw rfl 1 (by decide) (hts _ tw_285) (fun _ h9 => h9) dX11_promise_58 f_v21_X10_1 ?_
          refine t_getk (ci := 8) (C := RX8) (T := TX8) (N := 13) hx hb hts iX8 hown hw rfl 8 (by decide) (hts _ tw_244) (fun _ h9 => h9) dX11_promise_61 f_v24_X8_8 ?_
          refine lv_iload_n hx hb dX11_promise_64 rfl (lv_at hl 2 rfl) ?_
          refine lv_iload_n hx hb dX11_promise_65 rfl (lv_at hl 3 rfl) ?_
          refine t_iast hx hb hw k_v27 rfl rfl (by omega) (show a1.toInt < 6 by omega) (i32_lo _) (i32_hi _) dX11_promise_66 (fun w_3 H locs hw u => ?_)
          have hM := hM.up3 u k_v27 (by decide)
          have f_a0_X11_5 := u.1 _ _ _ _ f_a0_X11_5
          have f_v21_X10_1 := u.1 _ _ _ _ f_v21_X10_1
          have f_v24_X8_8 := u.1 _ _ _ _ f_v24_X8_8
          have f_a0_X11_7 := u.1 _ _ _ _ f_a0_X11_7
          have f_v24_X8_1 := u.1 _ _ _ _ f_v24_X8_1
          refine lv_iload_n hx hb dX11_promise_67 rfl (lv_at hl 0 rfl) ?_
          rw [hQ]
          refine W.widen (k := 0) (n := 0) (Nat.le_refl _) (Nat.le_refl _) ?_
          exact W.iret (v := v31) hx hb hr (fun t ht hW => ⟨⟨v31, w_3, rfl, ⟨hw.2.2.2.2, hM⟩, by rw [ht]; exact hw.2.1, va_K.moved hW.alike hw.1, hw.2.2.1⟩, hw.2.2.2.1.F ht⟩) hw.2.2.2.1.2.2 dX11_promise_68
        · simp only [fa_lt, fa_le, fa_eq] at c_35
          refine lv_iconst (v := (-1)) hx hb dX11_promise_38 (by decide) ?_
          rw [hQ]
          refine W.widen (k := 0) (n := 0) (Nat.le_refl _) (Nat.le_refl _) ?_
          exact W.iret (v := (-1)) hx hb hr (fun t ht hW => ⟨⟨(-1), w_1, rfl, ⟨hw.2.2.2.2, hM⟩, by rw [ht]; exact hw.2.1, va_K.moved hW.alike hw.1, hw.2.2.1⟩, hw.2.2.2.1.F ht⟩) hw.2.2.2.1.2.2 dX11_promise_39
      · simp only [fa_lt, fa_le, fa_eq, li_20] at c_15
        refine lv_iconst (v := (-1)) hx hb dX11_promise_18 (by decide) ?_
        rw [hQ]
        refine W.widen (k := 0) (n := 0) (Nat.le_refl _) (Nat.le_refl _) ?_
        exact W.iret (v := (-1)) hx hb hr (fun t ht hW => ⟨⟨(-1), w_1, rfl, ⟨hw.2.2.2.2, hM⟩, by rw [ht]; exact hw.2.1, va_K.moved hW.alike hw.1, hw.2.2.1⟩, hw.2.2.2.1.F ht⟩) hw.2.2.2.1.2.2 dX11_promise_19
set_option maxHeartbeats 4000000 in
set_option maxRecDepth 100000 in
theorem t_X5_gain (l : Launch) (dC : Nat → ClassId) (dI : Nat → Nat → Nat) (tys : List (ClassId × FieldType)) (κ : tK) (B : Nat) (ws : va_W) (hT : Ty κ tys B ws) (a0 : Nat) (k_a0 : κ a0 = some 5) (a1 : Int32) (l_a1 : 0 ≤ a1.toInt) (h_a1 : a1.toInt ≤ 4) (a2 : Int32) (l_a2 : 0 ≤ a2.toInt) (h_a2 : a2.toInt ≤ 4) (a3 : Int32) (l_a3 : 0 ≤ a3.toInt) (h_a3 : a3.toInt ≤ 5) (a4 : Int32) (l_a4 : 0 ≤ a4.toInt) (h_a4 : a4.toInt ≤ 4) (sz : Nat) : Met l yX5_gain (ws_u yX5_gain cX5_gain 5 (some .int)) ({ frames := 0, cells := 0, slots := 0, locals := 0 }) (va_Pc [.ref a0, .int a1, .int a2, .int a3, .int a4] (cPre (dC, dI) tys ws sz)) (va_Qi (fun (r : Int32) (w : va_W) => 0 ≤ r.toInt ∧ r.toInt ≤ 20 ∧ Ty κ tys B w ∧ Sm [] [] κ ws w) (fun w t => cPost (dC, dI) tys w (va_A ws sz) t) (va_A ws sz)) 0 0 (va_A ws sz) := by
  refine Met.ofW (cc := cX5_gain) (maxL := 5) (ret := (some .int)) (by decide) rfl ?_
  intro p e s m args below meth c s₁ B0 hml hv
  obtain ⟨rfl, hsz, hP, hK, hD0, hE⟩ := hv
  have hx := B0.exec
  have hb := B0.bytes
  have hr := B0.returns
  have hts0 := atoms_spec (ws := ws_u yX5_gain cX5_gain 5 (some .int)) B0.pre
  have hts : ∀ w ∈ gT, w.before _ s = true := fun w h => hts0 w (List.mem_cons_of_mem _ h)
  have hown : s.vm.findClass RX5 = some m.cls := findClass_of_methodNamed B0.named
  have hlocks := B0.notSynchronized
  subst hsz
  have hD := hD0.self (sz := s.heap.size)
  generalize hAe : va_A ws s.heap.size = A at hD ⊢
  have hA : ∀ q : Nat, s.heap.size ≤ q → A q := fun q h => by rw [← hAe]; exact Or.inr h
  have hw : tW (dC, dI) tys κ B A s ws s.heap [] := ⟨hK, hP, hD, va_S.rf, hT⟩
  have hM : Sm [] [] κ ws ws := Sm.rf
  clear hP hK hD hD0 hts0
  have hl := lv_entry ([.ref a0, .int a1, .int a2, .int a3, .int a4]) (n := 5) (Nat.le_of_ble_eq_true rfl)
  rw [lg_entry_eq]
  generalize (lg_sl ([.ref a0, .int a1, .int a2, .int a3, .int a4]) ++ List.replicate (5 - (lg_sl ([.ref a0, .int a1, .int a2, .int a3, .int a4])).length) Slot.unset).toArray = ls at hl ⊢
  have hl : lv_has ls 5 [(0, .ref a0), (1, .int a1), (2, .int a2), (3, .int a3), (4, .int a4)] := hl
  refine t_start (fun QQ hQ => ?_)
  refine lv_aload_n hx hb dX5_gain_0 rfl (lv_at hl 0 rfl) ?_
  refine t_getr (k1 := 37) (ci := 5) (C := RX5) (T := TX5) (N := 8) hx hb hts iX5 hown hw k_a0 rfl rfl rfl 7 (by decide) (hts _ tw_355) (fun _ h9 => h9) dX5_gain_1 rfl (fun v1 k_v1 f_a0_X5_7 => ?_)
  refine lv_iload_n hx hb dX5_gain_4 rfl (lv_at hl 1 rfl) ?_
  refine lv_iconst (v := 5) hx hb dX5_gain_5 (by decide) ?_
  refine lv_imul hx hb dX5_gain_6 ?_
  refine lv_topi (fun v6 e_v6 => ?_)
  have e_v6 : v6.toInt = a1.toInt * 5 := ml_i e_v6 rfl li_5 (by omega) (by omega)
  refine lv_iload_n hx hb dX5_gain_7 rfl (lv_at hl 2 rfl) ?_
  refine lv_iadd hx hb dX5_gain_8 ?_
  refine lv_topi (fun v8 e_v8 => ?_)
  have e_v8 : v8.toInt = v6.toInt + a2.toInt := ad_i e_v8 rfl rfl (by omega) (by omega)
  refine t_iald hx hb hw k_v1 rfl rfl (by omega) (show v8.toInt < 25 by omega) dX5_gain_9 (fun v9 r_v9 s_v9 q_v9 => ?_)
  have l_v9 := i32_lo v9
  have h_v9 := i32_hi v9
  refine lv_iload_n hx hb dX5_gain_10 rfl (lv_at hl 3 rfl) ?_
  refine lv_icmp_ne (tgt := 24) hx hb dX5_gain_11 (by decide) (fun c_11 => ?_) (fun c_11 => ?_)
  · simp only [fa_lt, fa_le, fa_eq] at c_11
    refine lv_iconst (v := 0) hx hb dX5_gain_24 (by decide) ?_
    rw [hQ]
    refine W.widen (k := 0) (n := 0) (Nat.le_refl _) (Nat.le_refl _) ?_
    exact W.iret (v := 0) hx hb hr (fun t ht hW => ⟨⟨0, ws, rfl, ⟨(by decide), (by decide), hw.2.2.2.2, hM⟩, by rw [ht]; exact hw.2.1, va_K.moved hW.alike hw.1, hw.2.2.1⟩, hw.2.2.2.1.F ht⟩) hw.2.2.2.1.2.2 dX5_gain_25
  · simp only [fa_lt, fa_le, fa_eq] at c_11
    refine lv_bipush (v := 20) hx hb dX5_gain_14 (by decide) ?_
    refine lv_iconst (v := 5) hx hb dX5_gain_16 (by decide) ?_
    refine lv_iload hx hb dX5_gain_17 (lv_at hl 4 rfl) ?_
    refine lv_imul hx hb dX5_gain_19 ?_
    refine lv_topi (fun v19 e_v19 => ?_)
    have e_v19 : v19.toInt = 5 * a4.toInt := ml_i e_v19 li_5 rfl (by omega) (by omega)
    refine lv_isub hx hb dX5_gain_20 ?_
    refine lv_topi (fun v20 e_v20 => ?_)
    have e_v20 : v20.toInt = 20 - v19.toInt := sb_i e_v20 li_20 rfl (by omega) (by omega)
    refine lv_goto (tgt := 25) hx hb dX5_gain_21 (by decide) ?_
    rw [hQ]
    refine W.widen (k := 0) (n := 0) (Nat.le_refl _) (Nat.le_refl _) ?_
    exact W.iret (v := v20) hx hb hr (fun t ht hW => ⟨⟨v20, ws, rfl, ⟨(by omega), (by omega), hw.2.2.2.2, hM⟩, by rw [ht]; exact hw.2.1, va_K.moved hW.alike hw.1, hw.2.2.1⟩, hw.2.2.2.1.F ht⟩) hw.2.2.2.1.2.2 dX5_gain_25
set_option maxHeartbeats 4000000 in
set_option maxRecDepth 100000 in
theorem t_X5_isRest (l : Launch) (dC : Nat → ClassId) (dI : Nat → Nat → Nat) (tys : List (ClassId × FieldType)) (κ : tK) (B : Nat) (ws : va_W) (hT : Ty κ tys B ws) (a0 : Nat) (k_a0 : κ a0 = some 5) (a1 : Int32) (l_a1 : 0 ≤ a1.toInt) (h_a1 : a1.toInt ≤ 24) (a2 : Int32) (l_a2 : 0 ≤ a2.toInt) (h_a2 : a2.toInt ≤ 5) (a3 : Int32) (l_a3 : 0 ≤ a3.toInt) (h_a3 : a3.toInt ≤ 5) (sz : Nat) : Met l yX5_isRest (ws_u yX5_isRest cX5_isRest 9 (some .boolean)) ({ frames := 1, cells := 0, slots := 0, locals := 24 }) (va_Pc [.ref a0, .int a1, .int a2, .int a3] (cPre (dC, dI) tys ws sz)) (va_Qi (fun (r : Int32) (w : va_W) => 0 ≤ r.toInt ∧ r.toInt ≤ 1 ∧ Ty κ tys B w ∧ Sm [] [] κ ws w) (fun w t => cPost (dC, dI) tys w (va_A ws sz) t) (va_A ws sz)) 0 0 (va_A ws sz) := by
  refine Met.ofW (cc := cX5_isRest) (maxL := 9) (ret := (some .boolean)) (by decide) rfl ?_
  intro p e s m args below meth c s₁ B0 hml hv
  obtain ⟨rfl, hsz, hP, hK, hD0, hE⟩ := hv
  have hx := B0.exec
  have hb := B0.bytes
  have hr := B0.returns
  have hts0 := atoms_spec (ws := ws_u yX5_isRest cX5_isRest 9 (some .boolean)) B0.pre
  have hts : ∀ w ∈ gT, w.before _ s = true := fun w h => hts0 w (List.mem_cons_of_mem _ h)
  have hown : s.vm.findClass RX5 = some m.cls := findClass_of_methodNamed B0.named
  have hlocks := B0.notSynchronized
  subst hsz
  have hD := hD0.self (sz := s.heap.size)
  generalize hAe : va_A ws s.heap.size = A at hD ⊢
  have hA : ∀ q : Nat, s.heap.size ≤ q → A q := fun q h => by rw [← hAe]; exact Or.inr h
  have hw : tW (dC, dI) tys κ B A s ws s.heap [] := ⟨hK, hP, hD, va_S.rf, hT⟩
  have hM : Sm [] [] κ ws ws := Sm.rf
  clear hP hK hD hD0 hts0
  have hl := lv_entry ([.ref a0, .int a1, .int a2, .int a3]) (n := 9) (Nat.le_of_ble_eq_true rfl)
  rw [lg_entry_eq]
  generalize (lg_sl ([.ref a0, .int a1, .int a2, .int a3]) ++ List.replicate (9 - (lg_sl ([.ref a0, .int a1, .int a2, .int a3])).length) Slot.unset).toArray = ls at hl ⊢
  have hl : lv_has ls 9 [(0, .ref a0), (1, .int a1), (2, .int a2), (3, .int a3)] := hl
  refine t_start (fun QQ hQ => ?_)
  refine lv_iload_n hx hb dX5_isRest_0 rfl (lv_at hl 1 rfl) ?_
  refine lv_iconst (v := 5) hx hb dX5_isRest_1 (by decide) ?_
  refine lv_idiv hx hb dX5_isRest_2 (ne_i li_5 (by decide)) ?_
  refine lv_topi (fun v2 e_v2 => ?_)
  have e_v2 : v2.toInt = a1.toInt / 5 := dv_i e_v2 rfl li_5 (by omega) (by decide)
  refine lv_istore (lv' := [(4, .int v2), (0, .ref a0), (1, .int a1), (2, .int a2), (3, .int a3)]) hx hb dX5_isRest_3 hl (by decide) rfl (fun ls hl => ?_)
  refine lv_iload_n hx hb dX5_isRest_5 rfl (lv_at hl 2 rfl) ?_
  refine lv_iconst (v := 5) hx hb dX5_isRest_6 (by decide) ?_
  refine lv_irem hx hb dX5_isRest_7 (ne_i li_5 (by decide)) ?_
  refine lv_topi (fun v7 e_v7 => ?_)
  have e_v7 : v7.toInt = a1.toInt % 5 := rm_i e_v7 rfl li_5 (by omega) (by decide)
  refine lv_istore (lv' := [(5, .int v7), (4, .int v2), (0, .ref a0), (1, .int a1), (2, .int a2), (3, .int a3)]) hx hb dX5_isRest_8 hl (by decide) rfl (fun ls hl => ?_)
  refine lv_aload_n hx hb dX5_isRest_10 rfl (lv_at hl 2 rfl) ?_
  refine lv_iload hx hb dX5_isRest_11 (lv_at hl 1 rfl) ?_
  refine lv_iload hx hb dX5_isRest_13 (lv_at hl 0 rfl) ?_
  refine lv_iload_n hx hb dX5_isRest_15 rfl (lv_at hl 4 rfl) ?_
  refine lv_iload hx hb dX5_isRest_16 (lv_at hl 1 rfl) ?_
  refine t_calli (va_runV (As := [.int v2, .int v7, .int a2, .int v2]) (rest := []) ⟨hx, hb, hml, hown, hts⟩ (t_X5_gain l dC dI tys κ B ws hw.2.2.2.2 a0 k_a0 v2 (by omega) (by omega) v7 (by omega) (by omega) a2 (by omega) (by omega) v2 (by omega) (by omega) s.heap.size) (cwV 4 hts (gUV tw_967 tw_969 ts_2_6 tw_10 tw_970) rfl rfl rfl (by decide +kernel) ⟨(Nat.le_of_ble_eq_true rfl), (Nat.le_of_ble_eq_true rfl)⟩) ⟨cPre.blind, t_recv hw (ci := 5) k_a0 rfl rfl, cPre.use hw.2.1 hw.1 hw.2.2.1 hE⟩ rfl rfl hl.1 rfl (lv_room (Nat.le_of_ble_eq_true rfl)) dX5_isRest_18 ⟨(Nat.le_of_ble_eq_true rfl), (Nat.le_of_ble_eq_true rfl)⟩) hw hA (fun _ _ h => h.2.2.1) (fun v18 w_1 H locs hp hw => ?_)
  obtain ⟨l_v18, h_v18, _, hm⟩ := hp
  have hM := hM.trans hm (by decide) (by decide)
  refine lv_istore (lv' := [(6, .int v18), (5, .int v7), (4, .int v2), (0, .ref a0), (1, .int a1), (2, .int a2), (3, .int a3)]) hx hb dX5_isRest_21 hl (by decide) rfl (fun ls hl => ?_)
  refine lv_aload_n hx hb dX5_isRest_23 rfl (lv_at hl 3 rfl) ?_
  refine lv_iload hx hb dX5_isRest_24 (lv_at hl 2 rfl) ?_
  refine lv_iload hx hb dX5_isRest_26 (lv_at hl 1 rfl) ?_
  refine lv_iload_n hx hb dX5_isRest_28 rfl (lv_at hl 6 rfl) ?_
  refine lv_iload hx hb dX5_isRest_29 (lv_at hl 1 rfl) ?_
  refine t_calli (va_runV (As := [.int v2, .int v7, .int a3, .int v7]) (rest := []) ⟨hx, hb, hml, hown, hts⟩ (t_X5_gain l dC dI tys κ B w_1 hw.2.2.2.2 a0 k_a0 v2 (by omega) (by omega) v7 (by omega) (by omega) a3 (by omega) (by omega) v7 (by omega) (by omega) H.size) (cwV 4 hts (gUV tw_967 tw_969 ts_2_6 tw_10 tw_970) rfl rfl rfl (by decide +kernel) ⟨(Nat.le_of_ble_eq_true rfl), (Nat.le_of_ble_eq_true rfl)⟩) ⟨cPre.blind, t_recv hw (ci := 5) k_a0 rfl rfl, cPre.use hw.2.1 hw.1 hw.2.2.1 hE⟩ rfl rfl hl.1 rfl (lv_room (Nat.le_of_ble_eq_true rfl)) dX5_isRest_31 ⟨(Nat.le_of_ble_eq_true rfl), (Nat.le_of_ble_eq_true rfl)⟩) hw hA (fun _ _ h => h.2.2.1) (fun v31 w_2 H locs hp hw => ?_)
  obtain ⟨l_v31, h_v31, _, hm⟩ := hp
  have hM := hM.trans hm (by decide) (by decide)
  refine lv_istore (lv' := [(7, .int v31), (6, .int v18), (5, .int v7), (4, .int v2), (0, .ref a0), (1, .int a1), (2, .int a2), (3, .int a3)]) hx hb dX5_isRest_34 hl (by decide) rfl (fun ls hl => ?_)
  refine lv_iconst (v := 0) hx hb dX5_isRest_36 (by decide) ?_
  refine lv_istore (lv' := [(8, .int 0), (7, .int v31), (6, .int v18), (5, .int v7), (4, .int v2), (0, .ref a0), (1, .int a1), (2, .int a2), (3, .int a3)]) hx hb dX5_isRest_37 hl (by decide) rfl (fun ls hl => ?_)
  have J39 : ∀ (n : Nat) (H : Heap) (locs : List Loc) (ls : Array Slot), (∃ (w39 : va_W) (p39_l8 : Int32), tW (dC, dI) tys κ B A s w39 H locs ∧ Sm [] [] κ ws w39 ∧ 0 ≤ p39_l8.toInt ∧ p39_l8.toInt ≤ 5 ∧ lv_has ls 9 [(0, .ref a0), (1, .int a1), (2, .int a2), (3, .int a3), (4, .int v2), (5, .int v7), (6, .int v18), (7, .int v31), (8, .int p39_l8)] ∧ (5 - p39_l8.toInt).toNat = n) → W p l e (headSpec (ws_u yX5_isRest cX5_isRest 9 (some .boolean)) ({ frames := 1, cells := 0, slots := 0, locals := 24 })).room s m ([.ref a0, .int a1, .int a2, .int a3] : List Value).toArray below meth c H locs 0 0 QQ (F0 m 39 ls []) := by
    refine loopT _ ?_
    intro n_39 H locs ls hI ih_39
    obtain ⟨w39, p39_l8, hw, hM, l_p39_l8, h_p39_l8, hl, hn_39⟩ := hI
    refine lv_iload hx hb dX5_isRest_39 (lv_at hl 8 rfl) ?_
    refine lv_iconst (v := 5) hx hb dX5_isRest_41 (by decide) ?_
    refine lv_icmp_ge (tgt := 85) hx hb dX5_isRest_42 (by decide) (fun c_42 => ?_) (fun c_42 => ?_)
    · simp only [fa_lt, fa_le, fa_eq, li_5] at c_42
      refine lv_iconst (v := 1) hx hb dX5_isRest_85 (by decide) ?_
      rw [hQ]
      refine W.widen (k := 0) (n := 0) (Nat.le_refl _) (Nat.le_refl _) ?_
      exact W.zret (v := 1) hx hb hr rfl (fun t ht hW => ⟨⟨1, w39, rfl, ⟨(by decide), (by decide), hw.2.2.2.2, hM⟩, by rw [ht]; exact hw.2.1, va_K.moved hW.alike hw.1, hw.2.2.1⟩, hw.2.2.2.1.F ht⟩) hw.2.2.2.1.2.2 dX5_isRest_86
    · simp only [fa_lt, fa_le, fa_eq, li_5] at c_42
      refine lv_aload_n hx hb dX5_isRest_45 rfl (lv_at hl 0 rfl) ?_
      refine lv_iload hx hb dX5_isRest_46 (lv_at hl 8 rfl) ?_
      refine lv_iload hx hb dX5_isRest_48 (lv_at hl 5 rfl) ?_
      refine lv_iload_n hx hb dX5_isRest_50 rfl (lv_at hl 2 rfl) ?_
      refine lv_iload hx hb dX5_isRest_51 (lv_at hl 8 rfl) ?_
      refine t_calli (va_runV (As := [.int p39_l8, .int v7, .int a2, .int p39_l8]) (rest := []) ⟨hx, hb, hml, hown, hts⟩ (t_X5_gain l dC dI tys κ B w39 hw.2.2.2.2 a0 k_a0 p39_l8 (by omega) (by omega) v7 (by omega) (by omega) a2 (by omega) (by omega) p39_l8 (by omega) (by omega) H.size) (cwV 4 hts (gUV tw_967 tw_969 ts_2_6 tw_10 tw_970) rfl rfl rfl (by decide +kernel) ⟨(Nat.le_of_ble_eq_true rfl), (Nat.le_of_ble_eq_true rfl)⟩) ⟨cPre.blind, t_recv hw (ci := 5) k_a0 rfl rfl, cPre.use hw.2.1 hw.1 hw.2.2.1 hE⟩ rfl rfl hl.1 rfl (lv_room (Nat.le_of_ble_eq_true rfl)) dX5_isRest_53 ⟨(Nat.le_of_ble_eq_true rfl), (Nat.le_of_ble_eq_true rfl)⟩) hw hA (fun _ _ h => h.2.2.1) (fun v53 w_3 H locs hp hw => ?_)
      obtain ⟨l_v53, h_v53, _, hm⟩ := hp
      have hM := hM.trans hm (by decide) (by decide)
      refine lv_iload hx hb dX5_isRest_56 (lv_at hl 6 rfl) ?_
      refine lv_icmp_gt (tgt := 77) hx hb dX5_isRest_58 (by decide) (fun c_58 => ?_) (fun c_58 => ?_)
      · simp only [fa_lt, fa_le, fa_eq] at c_58
        refine lv_iconst (v := 0) hx hb dX5_isRest_77 (by decide) ?_
        rw [hQ]
        refine W.widen (k := 0) (n := 0) (Nat.le_refl _) (Nat.le_refl _) ?_
        exact W.zret (v := 0) hx hb hr rfl (fun t ht hW => ⟨⟨0, w_3, rfl, ⟨(by decide), (by decide), hw.2.2.2.2, hM⟩, by rw [ht]; exact hw.2.1, va_K.moved hW.alike hw.1, hw.2.2.1⟩, hw.2.2.2.1.F ht⟩) hw.2.2.2.1.2.2 dX5_isRest_78
      · simp only [fa_lt, fa_le, fa_eq] at c_58
        refine lv_aload_n hx hb dX5_isRest_61 rfl (lv_at hl 0 rfl) ?_
        refine lv_iload hx hb dX5_isRest_62 (lv_at hl 4 rfl) ?_
        refine lv_iload hx hb dX5_isRest_64 (lv_at hl 8 rfl) ?_
        refine lv_iload_n hx hb dX5_isRest_66 rfl (lv_at hl 3 rfl) ?_
        refine lv_iload hx hb dX5_isRest_67 (lv_at hl 8 rfl) ?_
        refine t_calli (va_runV (As := [.int v2, .int p39_l8, .int a3, .int p39_l8]) (rest := []) ⟨hx, hb, hml, hown, hts⟩ (t_X5_gain l dC dI tys κ B w_3 hw.2.2.2.2 a0 k_a0 v2 (by omega) (by omega) p39_l8 (by omega) (by omega) a3 (by omega) (by omega) p39_l8 (by omega) (by omega) H.size) (cwV 4 hts (gUV tw_967 tw_969 ts_2_6 tw_10 tw_970) rfl rfl rfl (by decide +kernel) ⟨(Nat.le_of_ble_eq_true rfl), (Nat.le_of_ble_eq_true rfl)⟩) ⟨cPre.blind, t_recv hw (ci := 5) k_a0 rfl rfl, cPre.use hw.2.1 hw.1 hw.2.2.1 hE⟩ rfl rfl hl.1 rfl (lv_room (Nat.le_of_ble_eq_true rfl)) dX5_isRest_69 ⟨(Nat.le_of_ble_eq_true rfl), (Nat.le_of_ble_eq_true rfl)⟩) hw hA (fun _ _ h => h.2.2.1) (fun v69 w_4 H locs hp hw => ?_)
        obtain ⟨l_v69, h_v69, _, hm⟩ := hp
        have hM := hM.trans hm (by decide) (by decide)
        refine lv_iload hx hb dX5_isRest_72 (lv_at hl 7 rfl) ?_
        refine lv_icmp_le (tgt := 79) hx hb dX5_isRest_74 (by decide) (fun c_74 => ?_) (fun c_74 => ?_)
        · simp only [fa_lt, fa_le, fa_eq] at c_74
          obtain ⟨v79, e_v79⟩ : ∃ y : Int32, y = p39_l8 + 1 := ⟨_, rfl⟩
          refine lv_iinc (v := v79) (lv' := [(8, .int v79), (0, .ref a0), (1, .int a1), (2, .int a2), (3, .int a3), (4, .int v2), (5, .int v7), (6, .int v18), (7, .int v31)]) hx hb dX5_isRest_79 hl (k := 8) rfl e_v79.symm (by decide) rfl (fun ls hl => ?_)
          have e_v79 : v79.toInt = p39_l8.toInt + 1 := ad_i e_v79 rfl li_1 (by omega) (by omega)
          refine lv_goto (tgt := 39) hx hb dX5_isRest_82 (by decide) ?_
          exact ih_39 _ _ _ _ (by omega) ⟨w_4, v79, hw, hM, (by omega), (by omega), (lv_sub hl [1, 2, 3, 4, 5, 6, 7, 8, 0] rfl), rfl⟩
        · simp only [fa_lt, fa_le, fa_eq] at c_74
          refine lv_iconst (v := 0) hx hb dX5_isRest_77 (by decide) ?_
          rw [hQ]
          refine W.widen (k := 0) (n := 0) (Nat.le_refl _) (Nat.le_refl _) ?_
          exact W.zret (v := 0) hx hb hr rfl (fun t ht hW => ⟨⟨0, w_4, rfl, ⟨(by decide), (by decide), hw.2.2.2.2, hM⟩, by rw [ht]; exact hw.2.1, va_K.moved hW.alike hw.1, hw.2.2.1⟩, hw.2.2.2.1.F ht⟩) hw.2.2.2.1.2.2 dX5_isRest_78
  exact J39 _ _ _ _ ⟨w_2, 0, hw, hM, (by decide), (by decide), (lv_sub hl [5, 6, 7, 8, 4, 3, 2, 1, 0] rfl), rfl⟩
set_option maxHeartbeats 4000000 in
set_option maxRecDepth 100000 in
theorem t_X5_countRests (l : Launch) (dC : Nat → ClassId) (dI : Nat → Nat → Nat) (tys : List (ClassId × FieldType)) (κ : tK) (B : Nat) (ws : va_W) (hT : Ty κ tys B ws) (a0 : Nat) (k_a0 : κ a0 = some 5) (a1 : Int32) (l_a1 : 0 ≤ a1.toInt) (h_a1 : a1.toInt ≤ 5) (a2 : Int32) (l_a2 : 0 ≤ a2.toInt) (h_a2 : a2.toInt ≤ 5) (sz : Nat) : Met l yX5_countRests (ws_u yX5_countRests cX5_countRests 5 (some .int)) ({ frames := 2, cells := 0, slots := 0, locals := 52 }) (va_Pc [.ref a0, .int a1, .int a2] (cPre (dC, dI) tys ws sz)) (va_Qi (fun (r : Int32) (w : va_W) => Ty κ tys B w ∧ Sm [] [] κ ws w) (fun w t => cPost (dC, dI) tys w (va_A ws sz) t) (va_A ws sz)) 0 0 (va_A ws sz) := by
  refine Met.ofW (cc := cX5_countRests) (maxL := 5) (ret := (some .int)) (by decide) rfl ?_
  intro p e s m args below meth c s₁ B0 hml hv
  obtain ⟨rfl, hsz, hP, hK, hD0, hE⟩ := hv
  have hx := B0.exec
  have hb := B0.bytes
  have hr := B0.returns
  have hts0 := atoms_spec (ws := ws_u yX5_countRests cX5_countRests 5 (some .int)) B0.pre
  have hts : ∀ w ∈ gT, w.before _ s = true := fun w h => hts0 w (List.mem_cons_of_mem _ h)
  have hown : s.vm.findClass RX5 = some m.cls := findClass_of_methodNamed B0.named
  have hlocks := B0.notSynchronized
  subst hsz
  have hD := hD0.self (sz := s.heap.size)
  generalize hAe : va_A ws s.heap.size = A at hD ⊢
  have hA : ∀ q : Nat, s.heap.size ≤ q → A q := fun q h => by rw [← hAe]; exact Or.inr h
  have hw : tW (dC, dI) tys κ B A s ws s.heap [] := ⟨hK, hP, hD, va_S.rf, hT⟩
  have hM : Sm [] [] κ ws ws := Sm.rf
  clear hP hK hD hD0 hts0
  have hl := lv_entry ([.ref a0, .int a1, .int a2]) (n := 5) (Nat.le_of_ble_eq_true rfl)
  rw [lg_entry_eq]
  generalize (lg_sl ([.ref a0, .int a1, .int a2]) ++ List.replicate (5 - (lg_sl ([.ref a0, .int a1, .int a2])).length) Slot.unset).toArray = ls at hl ⊢
  have hl : lv_has ls 5 [(0, .ref a0), (1, .int a1), (2, .int a2)] := hl
  refine t_start (fun QQ hQ => ?_)
  refine lv_iconst (v := 0) hx hb dX5_countRests_0 (by decide) ?_
  refine lv_istore_n (lv' := [(3, .int 0), (0, .ref a0), (1, .int a1), (2, .int a2)]) hx hb dX5_countRests_1 rfl hl (by decide) rfl (fun ls hl => ?_)
  refine lv_iconst (v := 0) hx hb dX5_countRests_2 (by decide) ?_
  refine lv_istore (lv' := [(4, .int 0), (3, .int 0), (0, .ref a0), (1, .int a1), (2, .int a2)]) hx hb dX5_countRests_3 hl (by decide) rfl (fun ls hl => ?_)
  have J5 : ∀ (n : Nat) (H : Heap) (locs : List Loc) (ls : Array Slot), (∃ (w5 : va_W) (p5_l3 : Int32) (p5_l4 : Int32), tW (dC, dI) tys κ B A s w5 H locs ∧ Sm [] [] κ ws w5 ∧ (-2147483648) ≤ p5_l3.toInt ∧ p5_l3.toInt ≤ 2147483647 ∧ 0 ≤ p5_l4.toInt ∧ p5_l4.toInt ≤ 25 ∧ lv_has ls 5 [(0, .ref a0), (1, .int a1), (2, .int a2), (3, .int p5_l3), (4, .int p5_l4)] ∧ (25 - p5_l4.toInt).toNat = n) → W p l e (headSpec (ws_u yX5_countRests cX5_countRests 5 (some .int)) ({ frames := 2, cells := 0, slots := 0, locals := 52 })).room s m ([.ref a0, .int a1, .int a2] : List Value).toArray below meth c H locs 0 0 QQ (F0 m 5 ls []) := by
    refine loopT _ ?_
    intro n_5 H locs ls hI ih_5
    obtain ⟨w5, p5_l3, p5_l4, hw, hM, l_p5_l3, h_p5_l3, l_p5_l4, h_p5_l4, hl, hn_5⟩ := hI
    refine lv_iload hx hb dX5_countRests_5 (lv_at hl 4 rfl) ?_
    refine lv_bipush (v := 25) hx hb dX5_countRests_7 (by decide) ?_
    refine lv_icmp_ge (tgt := 32) hx hb dX5_countRests_9 (by decide) (fun c_9 => ?_) (fun c_9 => ?_)
    · simp only [fa_lt, fa_le, fa_eq, li_25] at c_9
      refine lv_iload_n hx hb dX5_countRests_32 rfl (lv_at hl 3 rfl) ?_
      rw [hQ]
      refine W.widen (k := 0) (n := 0) (Nat.le_refl _) (Nat.le_refl _) ?_
      exact W.iret (v := p5_l3) hx hb hr (fun t ht hW => ⟨⟨p5_l3, w5, rfl, ⟨hw.2.2.2.2, hM⟩, by rw [ht]; exact hw.2.1, va_K.moved hW.alike hw.1, hw.2.2.1⟩, hw.2.2.2.1.F ht⟩) hw.2.2.2.1.2.2 dX5_countRests_33
    · simp only [fa_lt, fa_le, fa_eq, li_25] at c_9
      refine lv_aload_n hx hb dX5_countRests_12 rfl (lv_at hl 0 rfl) ?_
      refine lv_iload hx hb dX5_countRests_13 (lv_at hl 4 rfl) ?_
      refine lv_iload_n hx hb dX5_countRests_15 rfl (lv_at hl 1 rfl) ?_
      refine lv_iload_n hx hb dX5_countRests_16 rfl (lv_at hl 2 rfl) ?_
      refine t_calli (va_runV (As := [.int p5_l4, .int a1, .int a2]) (rest := []) ⟨hx, hb, hml, hown, hts⟩ (t_X5_isRest l dC dI tys κ B w5 hw.2.2.2.2 a0 k_a0 p5_l4 (by omega) (by omega) a1 (by omega) (by omega) a2 (by omega) (by omega) H.size) (cwV 3 hts (gUV tw_963 tw_965 ts_2_5 tw_10 tw_966) rfl rfl rfl (by decide +kernel) ⟨(Nat.le_of_ble_eq_true rfl), (Nat.le_of_ble_eq_true rfl)⟩) ⟨cPre.blind, t_recv hw (ci := 5) k_a0 rfl rfl, cPre.use hw.2.1 hw.1 hw.2.2.1 hE⟩ rfl rfl hl.1 rfl (lv_room (Nat.le_of_ble_eq_true rfl)) dX5_countRests_17 ⟨(Nat.le_of_ble_eq_true rfl), (Nat.le_of_ble_eq_true rfl)⟩) hw hA (fun _ _ h => h.2.2.1) (fun v17 w_1 H locs hp hw => ?_)
      obtain ⟨l_v17, h_v17, _, hm⟩ := hp
      have hM := hM.trans hm (by decide) (by decide)
      have J26 : ∀ (H : Heap) (locs : List Loc) (ls : Array Slot) (w26 : va_W) (p26_l3 : Int32), tW (dC, dI) tys κ B A s w26 H locs → Sm [] [] κ ws w26 → (-2147483648) ≤ p26_l3.toInt → p26_l3.toInt ≤ 2147483647 → lv_has ls 5 [(0, .ref a0), (1, .int a1), (2, .int a2), (3, .int p26_l3), (4, .int p5_l4)] → W p l e (headSpec (ws_u yX5_countRests cX5_countRests 5 (some .int)) ({ frames := 2, cells := 0, slots := 0, locals := 52 })).room s m ([.ref a0, .int a1, .int a2] : List Value).toArray below meth c H locs 0 0 QQ (F0 m 26 ls []) := by
        intro H locs ls w26 p26_l3 hw hM l_p26_l3 h_p26_l3 hl
        obtain ⟨v26, e_v26⟩ : ∃ y : Int32, y = p5_l4 + 1 := ⟨_, rfl⟩
        refine lv_iinc (v := v26) (lv' := [(4, .int v26), (0, .ref a0), (1, .int a1), (2, .int a2), (3, .int p26_l3)]) hx hb dX5_countRests_26 hl (k := 4) rfl e_v26.symm (by decide) rfl (fun ls hl => ?_)
        have e_v26 : v26.toInt = p5_l4.toInt + 1 := ad_i e_v26 rfl li_1 (by omega) (by omega)
        refine lv_goto (tgt := 5) hx hb dX5_countRests_29 (by decide) ?_
        exact ih_5 _ _ _ _ (by omega) ⟨w26, p26_l3, v26, hw, hM, (by omega), (by omega), (by omega), (by omega), (lv_sub hl [1, 2, 3, 4, 0] rfl), rfl⟩
      refine lv_if_eq (tgt := 26) hx hb dX5_countRests_20 (by decide) (fun c_20 => ?_) (fun c_20 => ?_)
      · simp only [fa_lt, fa_le, fa_eq, li_0] at c_20
        exact J26 _ _ _ w_1 p5_l3 hw hM (by omega) (by omega) (lv_sub hl [0, 1, 2, 3, 4] rfl)
      · simp only [fa_lt, fa_le, fa_eq, li_0] at c_20
        obtain ⟨v23, e_v23⟩ : ∃ y : Int32, y = p5_l3 + 1 := ⟨_, rfl⟩
        refine lv_iinc (v := v23) (lv' := [(3, .int v23), (0, .ref a0), (1, .int a1), (2, .int a2), (4, .int p5_l4)]) hx hb dX5_countRests_23 hl (k := 3) rfl e_v23.symm (by decide) rfl (fun ls hl => ?_)
        have l_v23 := i32_lo v23
        have h_v23 := i32_hi v23
        exact J26 _ _ _ w_1 v23 hw hM (by omega) (by omega) (lv_sub hl [1, 2, 3, 0, 4] rfl)
  exact J5 _ _ _ _ ⟨ws, 0, 0, hw, hM, (by decide), (by decide), (by decide), (by decide), (lv_sub hl [2, 3, 4, 1, 0] rfl), rfl⟩
