theorem ts_1_5 : Cond.selects "BoyBishop$Rule" ⟨"BoyBishop$Rule", "run", "(II[J)J"⟩ ⟨"BoyBishop$Rule", "run", "(II[J)J"⟩ ∈ gT := gT_in (List.mem_append_left _ (List.mem_map.mpr ⟨(⟨"BoyBishop$Rule", "run", "(II[J)J"⟩, 7), (List.mem_append_right _ (List.mem_append_left _ (List.mem_of_getElem? (i := 5) rfl))), rfl⟩)) rfl
theorem ts_1_7 : Cond.selects "BoyBishop$Poll" ⟨"BoyBishop$Poll", "wantsMore", "(III)Z"⟩ ⟨"BoyBishop$Poll", "wantsMore", "(III)Z"⟩ ∈ gT := gT_in (List.mem_append_left _ (List.mem_map.mpr ⟨(⟨"BoyBishop$Poll", "wantsMore", "(III)Z"⟩, 8), (List.mem_append_right _ (List.mem_append_left _ (List.mem_of_getElem? (i := 7) rfl))), rfl⟩)) rfl
theorem tw_183 : (Jvm.Cond.fieldLink "BoyBishop$Rule" (9 : Nat) "BoyBishop$Rule" "steps" "[I") ∈ gT := gT_in (List.mem_append_right _ (List.mem_append_left _ (List.mem_of_getElem? (i := 183) rfl))) rfl
theorem tw_185 : (Jvm.Cond.fieldLink "BoyBishop$Rule" (15 : Nat) "BoyBishop$Rule" "sumFrom" "[I") ∈ gT := gT_in (List.mem_append_right _ (List.mem_append_left _ (List.mem_of_getElem? (i := 185) rfl))) rfl
theorem tw_186 : (Jvm.Cond.fieldLink "BoyBishop$Rule" (18 : Nat) "BoyBishop$Rule" "testFrom" "[I") ∈ gT := gT_in (List.mem_append_right _ (List.mem_append_left _ (List.mem_of_getElem? (i := 186) rfl))) rfl
theorem tw_187 : (Jvm.Cond.fieldLink "BoyBishop$Rule" (21 : Nat) "BoyBishop$Rule" "clauseTo" "[I") ∈ gT := gT_in (List.mem_append_right _ (List.mem_append_left _ (List.mem_of_getElem? (i := 187) rfl))) rfl
theorem tw_188 : (Jvm.Cond.fieldLink "BoyBishop$Rule" (32 : Nat) "BoyBishop$Rule" "clauses" "I") ∈ gT := gT_in (List.mem_append_right _ (List.mem_append_left _ (List.mem_of_getElem? (i := 188) rfl))) rfl
theorem tw_189 : (Jvm.Cond.fieldLink "BoyBishop$Rule" (24 : Nat) "BoyBishop$Rule" "stack" "[J") ∈ gT := gT_in (List.mem_append_right _ (List.mem_append_left _ (List.mem_of_getElem? (i := 189) rfl))) rfl
theorem tw_239 : (Jvm.Cond.fieldLink "BoyBishop$Poll" (85 : Nat) "BoyBishop$Standing" "voice" "[I") ∈ gT := gT_in (List.mem_append_right _ (List.mem_append_left _ (List.mem_of_getElem? (i := 239) rfl))) rfl
theorem tw_243 : (Jvm.Cond.fieldLink "BoyBishop$Poll" (68 : Nat) "BoyBishop$Standing" "share" "[I") ∈ gT := gT_in (List.mem_append_right _ (List.mem_append_right _ (List.mem_append_left _ (List.mem_of_getElem? (i := 3) rfl)))) rfl
theorem tw_246 : (Jvm.Cond.fieldLink "BoyBishop$Poll" (91 : Nat) "BoyBishop$Standing" "was" "[I") ∈ gT := gT_in (List.mem_append_right _ (List.mem_append_right _ (List.mem_append_left _ (List.mem_of_getElem? (i := 6) rfl)))) rfl
theorem tw_346 : (Jvm.Cond.fieldLink "BoyBishop$Poll" (9 : Nat) "BoyBishop$Poll" "wants" "[J") ∈ gT := gT_in (List.mem_append_right _ (List.mem_append_right _ (List.mem_append_left _ (List.mem_of_getElem? (i := 106) rfl)))) rfl
theorem tw_354 : (Jvm.Cond.fieldLink "BoyBishop$Poll" (24 : Nat) "BoyBishop$Poll" "words" "[J") ∈ gT := gT_in (List.mem_append_right _ (List.mem_append_right _ (List.mem_append_left _ (List.mem_of_getElem? (i := 114) rfl)))) rfl
theorem tw_6 : (Jvm.Cond.initialized "BoyBishop$Rule") ∈ gT := gT_in (List.mem_append_right _ (List.mem_append_left _ (List.mem_of_getElem? (i := 6) rfl))) rfl
theorem tw_789 : (Jvm.Cond.methodLink "BoyBishop$Rule" (35 : Nat) ({ cls := "BoyBishop$Rule", name := "run", desc := "(II[J)J" } : Jvm.MethodName)) ∈ gT := gT_in (List.mem_append_right _ (List.mem_append_right _ (List.mem_append_right _ (List.mem_append_right _ (List.mem_append_left _ (List.mem_of_getElem? (i := 69) rfl)))))) rfl
theorem tw_791 : (Jvm.Cond.instanceMethod ({ cls := "BoyBishop$Rule", name := "run", desc := "(II[J)J" } : Jvm.MethodName)) ∈ gT := gT_in (List.mem_append_right _ (List.mem_append_right _ (List.mem_append_right _ (List.mem_append_right _ (List.mem_append_left _ (List.mem_of_getElem? (i := 71) rfl)))))) rfl
theorem tw_792 : (Jvm.Cond.code ({ cls := "BoyBishop$Rule", name := "run", desc := "(II[J)J" } : Jvm.MethodName) prog_8_method_8_code (7 : Nat) (Option.some Jvm.ClassFile.FieldType.long)) ∈ gT := gT_in (List.mem_append_right _ (List.mem_append_right _ (List.mem_append_right _ (List.mem_append_right _ (List.mem_append_left _ (List.mem_of_getElem? (i := 72) rfl)))))) rfl
theorem tw_793 : (Jvm.Cond.methodLink "BoyBishop$Rule" (39 : Nat) ({ cls := "BoyBishop$Rule", name := "reckon", desc := "(IJJ)J" } : Jvm.MethodName)) ∈ gT := gT_in (List.mem_append_right _ (List.mem_append_right _ (List.mem_append_right _ (List.mem_append_right _ (List.mem_append_left _ (List.mem_of_getElem? (i := 73) rfl)))))) rfl
theorem tw_794 : (Jvm.Cond.static ({ cls := "BoyBishop$Rule", name := "reckon", desc := "(IJJ)J" } : Jvm.MethodName)) ∈ gT := gT_in (List.mem_append_right _ (List.mem_append_right _ (List.mem_append_right _ (List.mem_append_right _ (List.mem_append_left _ (List.mem_of_getElem? (i := 74) rfl)))))) rfl
theorem tw_795 : (Jvm.Cond.code ({ cls := "BoyBishop$Rule", name := "reckon", desc := "(IJJ)J" } : Jvm.MethodName) prog_8_method_9_code (5 : Nat) (Option.some Jvm.ClassFile.FieldType.long)) ∈ gT := gT_in (List.mem_append_right _ (List.mem_append_right _ (List.mem_append_right _ (List.mem_append_right _ (List.mem_append_left _ (List.mem_of_getElem? (i := 75) rfl)))))) rfl
theorem tw_800 : (Jvm.Cond.methodLink "BoyBishop$Poll" (94 : Nat) ({ cls := "BoyBishop$Poll", name := "wantsMore", desc := "(III)Z" } : Jvm.MethodName)) ∈ gT := gT_in (List.mem_append_right _ (List.mem_append_right _ (List.mem_append_right _ (List.mem_append_right _ (List.mem_append_left _ (List.mem_of_getElem? (i := 80) rfl)))))) rfl
theorem tw_802 : (Jvm.Cond.instanceMethod ({ cls := "BoyBishop$Poll", name := "wantsMore", desc := "(III)Z" } : Jvm.MethodName)) ∈ gT := gT_in (List.mem_append_right _ (List.mem_append_right _ (List.mem_append_right _ (List.mem_append_right _ (List.mem_append_left _ (List.mem_of_getElem? (i := 82) rfl)))))) rfl
theorem tw_803 : (Jvm.Cond.code ({ cls := "BoyBishop$Poll", name := "wantsMore", desc := "(III)Z" } : Jvm.MethodName) prog_7_method_6_code (4 : Nat) (Option.some Jvm.ClassFile.FieldType.boolean)) ∈ gT := gT_in (List.mem_append_right _ (List.mem_append_right _ (List.mem_append_right _ (List.mem_append_right _ (List.mem_append_left _ (List.mem_of_getElem? (i := 83) rfl)))))) rfl
theorem tw_97 : (Jvm.Cond.fieldLink "BoyBishop$Poll" (88 : Nat) "BoyBishop$Choir" "fade" "[I") ∈ gT := gT_in (List.mem_append_right _ (List.mem_append_left _ (List.mem_of_getElem? (i := 97) rfl))) rfl
theorem dX5_mostWanted_0 : decode cX5_mostWanted 0 = .ok (.iconst (-1), 1) := by decide +kernel
theorem dX5_mostWanted_1 : decode cX5_mostWanted 1 = .ok (.istore_n 3, 1) := by decide +kernel
theorem dX5_mostWanted_2 : decode cX5_mostWanted 2 = .ok (.iconst 0, 1) := by decide +kernel
theorem dX5_mostWanted_3 : decode cX5_mostWanted 3 = .ok (.istore 4, 2) := by decide +kernel
theorem dX5_mostWanted_5 : decode cX5_mostWanted 5 = .ok (.iload 4, 2) := by decide +kernel
theorem dX5_mostWanted_7 : decode cX5_mostWanted 7 = .ok (.aload_n 0, 1) := by decide +kernel
theorem dX5_mostWanted_8 : decode cX5_mostWanted 8 = .ok (.getfield 36, 3) := by decide +kernel
theorem dX5_mostWanted_11 : decode cX5_mostWanted 11 = .ok (.if_icmp .ge 37, 3) := by decide +kernel
theorem dX5_mostWanted_14 : decode cX5_mostWanted 14 = .ok (.iload_n 2, 1) := by decide +kernel
theorem dX5_mostWanted_15 : decode cX5_mostWanted 15 = .ok (.iload 4, 2) := by decide +kernel
theorem dX5_mostWanted_17 : decode cX5_mostWanted 17 = .ok (.invokestatic 57, 3) := by decide +kernel
theorem dX5_mostWanted_20 : decode cX5_mostWanted 20 = .ok (.ifCond .eq 22, 3) := by decide +kernel
theorem dX5_mostWanted_23 : decode cX5_mostWanted 23 = .ok (.iload_n 3, 1) := by decide +kernel
theorem dX5_mostWanted_24 : decode cX5_mostWanted 24 = .ok (.iconst (-1), 1) := by decide +kernel
theorem dX5_mostWanted_25 : decode cX5_mostWanted 25 = .ok (.if_icmp .eq 14, 3) := by decide +kernel
theorem dX5_mostWanted_28 : decode cX5_mostWanted 28 = .ok (.aload_n 0, 1) := by decide +kernel
theorem dX5_mostWanted_29 : decode cX5_mostWanted 29 = .ok (.iload_n 1, 1) := by decide +kernel
theorem dX5_mostWanted_30 : decode cX5_mostWanted 30 = .ok (.iload 4, 2) := by decide +kernel
theorem dX5_mostWanted_32 : decode cX5_mostWanted 32 = .ok (.iload_n 3, 1) := by decide +kernel
theorem dX5_mostWanted_33 : decode cX5_mostWanted 33 = .ok (.invokevirtual 94, 3) := by decide +kernel
theorem dX5_mostWanted_36 : decode cX5_mostWanted 36 = .ok (.ifCond .eq 6, 3) := by decide +kernel
theorem dX5_mostWanted_39 : decode cX5_mostWanted 39 = .ok (.iload 4, 2) := by decide +kernel
theorem dX5_mostWanted_41 : decode cX5_mostWanted 41 = .ok (.istore_n 3, 1) := by decide +kernel
theorem dX5_mostWanted_42 : decode cX5_mostWanted 42 = .ok (.iinc 4 1, 3) := by decide +kernel
theorem dX5_mostWanted_45 : decode cX5_mostWanted 45 = .ok (.goto (-40), 3) := by decide +kernel
theorem dX5_mostWanted_48 : decode cX5_mostWanted 48 = .ok (.iload_n 3, 1) := by decide +kernel
theorem dX5_mostWanted_49 : decode cX5_mostWanted 49 = .ok (.ireturn, 1) := by decide +kernel
theorem dX5_setWordsOf_0 : decode cX5_setWordsOf 0 = .ok (.aload_n 0, 1) := by decide +kernel
theorem dX5_setWordsOf_1 : decode cX5_setWordsOf 1 = .ok (.getfield 24, 3) := by decide +kernel
theorem dX5_setWordsOf_4 : decode cX5_setWordsOf 4 = .ok (.iconst 1, 1) := by decide +kernel
theorem dX5_setWordsOf_5 : decode cX5_setWordsOf 5 = .ok (.iload_n 1, 1) := by decide +kernel
theorem dX5_setWordsOf_6 : decode cX5_setWordsOf 6 = .ok (.i2l, 1) := by decide +kernel
theorem dX5_setWordsOf_7 : decode cX5_setWordsOf 7 = .ok (.lastore, 1) := by decide +kernel
theorem dX5_setWordsOf_8 : decode cX5_setWordsOf 8 = .ok (.aload_n 0, 1) := by decide +kernel
theorem dX5_setWordsOf_9 : decode cX5_setWordsOf 9 = .ok (.getfield 24, 3) := by decide +kernel
theorem dX5_setWordsOf_12 : decode cX5_setWordsOf 12 = .ok (.iconst 2, 1) := by decide +kernel
theorem dX5_setWordsOf_13 : decode cX5_setWordsOf 13 = .ok (.aload_n 3, 1) := by decide +kernel
theorem dX5_setWordsOf_14 : decode cX5_setWordsOf 14 = .ok (.getfield 85, 3) := by decide +kernel
theorem dX5_setWordsOf_17 : decode cX5_setWordsOf 17 = .ok (.iload_n 1, 1) := by decide +kernel
theorem dX5_setWordsOf_18 : decode cX5_setWordsOf 18 = .ok (.iaload, 1) := by decide +kernel
theorem dX5_setWordsOf_19 : decode cX5_setWordsOf 19 = .ok (.i2l, 1) := by decide +kernel
theorem dX5_setWordsOf_20 : decode cX5_setWordsOf 20 = .ok (.lastore, 1) := by decide +kernel
theorem dX5_setWordsOf_21 : decode cX5_setWordsOf 21 = .ok (.aload_n 0, 1) := by decide +kernel
theorem dX5_setWordsOf_22 : decode cX5_setWordsOf 22 = .ok (.getfield 24, 3) := by decide +kernel
theorem dX5_setWordsOf_25 : decode cX5_setWordsOf 25 = .ok (.iconst 3, 1) := by decide +kernel
theorem dX5_setWordsOf_26 : decode cX5_setWordsOf 26 = .ok (.aload_n 3, 1) := by decide +kernel
theorem dX5_setWordsOf_27 : decode cX5_setWordsOf 27 = .ok (.getfield 68, 3) := by decide +kernel
theorem dX5_setWordsOf_30 : decode cX5_setWordsOf 30 = .ok (.iload_n 1, 1) := by decide +kernel
theorem dX5_setWordsOf_31 : decode cX5_setWordsOf 31 = .ok (.iaload, 1) := by decide +kernel
theorem dX5_setWordsOf_32 : decode cX5_setWordsOf 32 = .ok (.i2l, 1) := by decide +kernel
theorem dX5_setWordsOf_33 : decode cX5_setWordsOf 33 = .ok (.lastore, 1) := by decide +kernel
theorem dX5_setWordsOf_34 : decode cX5_setWordsOf 34 = .ok (.aload_n 0, 1) := by decide +kernel
theorem dX5_setWordsOf_35 : decode cX5_setWordsOf 35 = .ok (.getfield 24, 3) := by decide +kernel
theorem dX5_setWordsOf_38 : decode cX5_setWordsOf 38 = .ok (.iconst 5, 1) := by decide +kernel
theorem dX5_setWordsOf_39 : decode cX5_setWordsOf 39 = .ok (.aload_n 2, 1) := by decide +kernel
theorem dX5_setWordsOf_40 : decode cX5_setWordsOf 40 = .ok (.getfield 88, 3) := by decide +kernel
theorem dX5_setWordsOf_43 : decode cX5_setWordsOf 43 = .ok (.iload_n 1, 1) := by decide +kernel
theorem dX5_setWordsOf_44 : decode cX5_setWordsOf 44 = .ok (.iaload, 1) := by decide +kernel
theorem dX5_setWordsOf_45 : decode cX5_setWordsOf 45 = .ok (.i2l, 1) := by decide +kernel
theorem dX5_setWordsOf_46 : decode cX5_setWordsOf 46 = .ok (.lastore, 1) := by decide +kernel
theorem dX5_setWordsOf_47 : decode cX5_setWordsOf 47 = .ok (.aload_n 0, 1) := by decide +kernel
theorem dX5_setWordsOf_48 : decode cX5_setWordsOf 48 = .ok (.getfield 24, 3) := by decide +kernel
theorem dX5_setWordsOf_51 : decode cX5_setWordsOf 51 = .ok (.bipush 6, 2) := by decide +kernel
theorem dX5_setWordsOf_53 : decode cX5_setWordsOf 53 = .ok (.aload_n 3, 1) := by decide +kernel
theorem dX5_setWordsOf_54 : decode cX5_setWordsOf 54 = .ok (.getfield 91, 3) := by decide +kernel
theorem dX5_setWordsOf_57 : decode cX5_setWordsOf 57 = .ok (.iload_n 1, 1) := by decide +kernel
theorem dX5_setWordsOf_58 : decode cX5_setWordsOf 58 = .ok (.iaload, 1) := by decide +kernel
theorem dX5_setWordsOf_59 : decode cX5_setWordsOf 59 = .ok (.i2l, 1) := by decide +kernel
theorem dX5_setWordsOf_60 : decode cX5_setWordsOf 60 = .ok (.lastore, 1) := by decide +kernel
theorem dX5_setWordsOf_61 : decode cX5_setWordsOf 61 = .ok (.return_, 1) := by decide +kernel
theorem dX5_wantsMore_0 : decode cX5_wantsMore 0 = .ok (.aload_n 0, 1) := by decide +kernel
theorem dX5_wantsMore_1 : decode cX5_wantsMore 1 = .ok (.getfield 9, 3) := by decide +kernel
theorem dX5_wantsMore_4 : decode cX5_wantsMore 4 = .ok (.iload_n 1, 1) := by decide +kernel
theorem dX5_wantsMore_5 : decode cX5_wantsMore 5 = .ok (.bipush 6, 2) := by decide +kernel
theorem dX5_wantsMore_7 : decode cX5_wantsMore 7 = .ok (.imul, 1) := by decide +kernel
theorem dX5_wantsMore_8 : decode cX5_wantsMore 8 = .ok (.iload_n 2, 1) := by decide +kernel
theorem dX5_wantsMore_9 : decode cX5_wantsMore 9 = .ok (.iadd, 1) := by decide +kernel
theorem dX5_wantsMore_10 : decode cX5_wantsMore 10 = .ok (.laload, 1) := by decide +kernel
theorem dX5_wantsMore_11 : decode cX5_wantsMore 11 = .ok (.aload_n 0, 1) := by decide +kernel
theorem dX5_wantsMore_12 : decode cX5_wantsMore 12 = .ok (.getfield 9, 3) := by decide +kernel
theorem dX5_wantsMore_15 : decode cX5_wantsMore 15 = .ok (.iload_n 1, 1) := by decide +kernel
theorem dX5_wantsMore_16 : decode cX5_wantsMore 16 = .ok (.bipush 6, 2) := by decide +kernel
theorem dX5_wantsMore_18 : decode cX5_wantsMore 18 = .ok (.imul, 1) := by decide +kernel
theorem dX5_wantsMore_19 : decode cX5_wantsMore 19 = .ok (.iload_n 3, 1) := by decide +kernel
theorem dX5_wantsMore_20 : decode cX5_wantsMore 20 = .ok (.iadd, 1) := by decide +kernel
theorem dX5_wantsMore_21 : decode cX5_wantsMore 21 = .ok (.laload, 1) := by decide +kernel
theorem dX5_wantsMore_22 : decode cX5_wantsMore 22 = .ok (.lcmp, 1) := by decide +kernel
theorem dX5_wantsMore_23 : decode cX5_wantsMore 23 = .ok (.ifCond .le 7, 3) := by decide +kernel
theorem dX5_wantsMore_26 : decode cX5_wantsMore 26 = .ok (.iconst 1, 1) := by decide +kernel
theorem dX5_wantsMore_27 : decode cX5_wantsMore 27 = .ok (.goto 4, 3) := by decide +kernel
theorem dX5_wantsMore_30 : decode cX5_wantsMore 30 = .ok (.iconst 0, 1) := by decide +kernel
theorem dX5_wantsMore_31 : decode cX5_wantsMore 31 = .ok (.ireturn, 1) := by decide +kernel
theorem dX6_reckon_0 : decode cX6_reckon 0 = .ok (.iload_n 0, 1) := by decide +kernel
theorem dX6_reckon_1 : decode cX6_reckon 1 = .ok (.tableswitch 171 (-23) (-12) #[167, 163, 151, 139, 127, 115, 103, 89, 75, 71, 67, 63], 63) := by decide +kernel
theorem dX6_reckon_64 : decode cX6_reckon 64 = .ok (.lload_n 1, 1) := by decide +kernel
theorem dX6_reckon_65 : decode cX6_reckon 65 = .ok (.lload_n 3, 1) := by decide +kernel
theorem dX6_reckon_66 : decode cX6_reckon 66 = .ok (.ladd, 1) := by decide +kernel
theorem dX6_reckon_67 : decode cX6_reckon 67 = .ok (.lreturn, 1) := by decide +kernel
theorem dX6_reckon_68 : decode cX6_reckon 68 = .ok (.lload_n 1, 1) := by decide +kernel
theorem dX6_reckon_69 : decode cX6_reckon 69 = .ok (.lload_n 3, 1) := by decide +kernel
theorem dX6_reckon_70 : decode cX6_reckon 70 = .ok (.lsub, 1) := by decide +kernel
theorem dX6_reckon_71 : decode cX6_reckon 71 = .ok (.lreturn, 1) := by decide +kernel
theorem dX6_reckon_72 : decode cX6_reckon 72 = .ok (.lload_n 1, 1) := by decide +kernel
theorem dX6_reckon_73 : decode cX6_reckon 73 = .ok (.lload_n 3, 1) := by decide +kernel
theorem dX6_reckon_74 : decode cX6_reckon 74 = .ok (.lmul, 1) := by decide +kernel
theorem dX6_reckon_75 : decode cX6_reckon 75 = .ok (.lreturn, 1) := by decide +kernel
theorem dX6_reckon_76 : decode cX6_reckon 76 = .ok (.lload_n 3, 1) := by decide +kernel
theorem dX6_reckon_77 : decode cX6_reckon 77 = .ok (.lconst 0, 1) := by decide +kernel
theorem dX6_reckon_78 : decode cX6_reckon 78 = .ok (.lcmp, 1) := by decide +kernel
theorem dX6_reckon_79 : decode cX6_reckon 79 = .ok (.ifCond .ne 7, 3) := by decide +kernel
theorem dX6_reckon_82 : decode cX6_reckon 82 = .ok (.lconst 0, 1) := by decide +kernel
theorem dX6_reckon_83 : decode cX6_reckon 83 = .ok (.goto 6, 3) := by decide +kernel
theorem dX6_reckon_86 : decode cX6_reckon 86 = .ok (.lload_n 1, 1) := by decide +kernel
theorem dX6_reckon_87 : decode cX6_reckon 87 = .ok (.lload_n 3, 1) := by decide +kernel
theorem dX6_reckon_88 : decode cX6_reckon 88 = .ok (.ldiv, 1) := by decide +kernel
theorem dX6_reckon_89 : decode cX6_reckon 89 = .ok (.lreturn, 1) := by decide +kernel
theorem dX6_reckon_90 : decode cX6_reckon 90 = .ok (.lload_n 3, 1) := by decide +kernel
theorem dX6_reckon_91 : decode cX6_reckon 91 = .ok (.lconst 0, 1) := by decide +kernel
theorem dX6_reckon_92 : decode cX6_reckon 92 = .ok (.lcmp, 1) := by decide +kernel
theorem dX6_reckon_93 : decode cX6_reckon 93 = .ok (.ifCond .ne 7, 3) := by decide +kernel
theorem dX6_reckon_96 : decode cX6_reckon 96 = .ok (.lconst 0, 1) := by decide +kernel
theorem dX6_reckon_97 : decode cX6_reckon 97 = .ok (.goto 6, 3) := by decide +kernel
theorem dX6_reckon_100 : decode cX6_reckon 100 = .ok (.lload_n 1, 1) := by decide +kernel
theorem dX6_reckon_101 : decode cX6_reckon 101 = .ok (.lload_n 3, 1) := by decide +kernel
theorem dX6_reckon_102 : decode cX6_reckon 102 = .ok (.lrem, 1) := by decide +kernel
theorem dX6_reckon_103 : decode cX6_reckon 103 = .ok (.lreturn, 1) := by decide +kernel
theorem dX6_reckon_104 : decode cX6_reckon 104 = .ok (.lload_n 1, 1) := by decide +kernel
theorem dX6_reckon_105 : decode cX6_reckon 105 = .ok (.lload_n 3, 1) := by decide +kernel
theorem dX6_reckon_106 : decode cX6_reckon 106 = .ok (.lcmp, 1) := by decide +kernel
theorem dX6_reckon_107 : decode cX6_reckon 107 = .ok (.ifCond .ge 7, 3) := by decide +kernel
theorem dX6_reckon_110 : decode cX6_reckon 110 = .ok (.lconst 1, 1) := by decide +kernel
theorem dX6_reckon_111 : decode cX6_reckon 111 = .ok (.goto 4, 3) := by decide +kernel
theorem dX6_reckon_114 : decode cX6_reckon 114 = .ok (.lconst 0, 1) := by decide +kernel
theorem dX6_reckon_115 : decode cX6_reckon 115 = .ok (.lreturn, 1) := by decide +kernel
theorem dX6_reckon_116 : decode cX6_reckon 116 = .ok (.lload_n 1, 1) := by decide +kernel
theorem dX6_reckon_117 : decode cX6_reckon 117 = .ok (.lload_n 3, 1) := by decide +kernel
theorem dX6_reckon_118 : decode cX6_reckon 118 = .ok (.lcmp, 1) := by decide +kernel
theorem dX6_reckon_119 : decode cX6_reckon 119 = .ok (.ifCond .gt 7, 3) := by decide +kernel
theorem dX6_reckon_122 : decode cX6_reckon 122 = .ok (.lconst 1, 1) := by decide +kernel
theorem dX6_reckon_123 : decode cX6_reckon 123 = .ok (.goto 4, 3) := by decide +kernel
theorem dX6_reckon_126 : decode cX6_reckon 126 = .ok (.lconst 0, 1) := by decide +kernel
theorem dX6_reckon_127 : decode cX6_reckon 127 = .ok (.lreturn, 1) := by decide +kernel
theorem dX6_reckon_128 : decode cX6_reckon 128 = .ok (.lload_n 1, 1) := by decide +kernel
theorem dX6_reckon_129 : decode cX6_reckon 129 = .ok (.lload_n 3, 1) := by decide +kernel
theorem dX6_reckon_130 : decode cX6_reckon 130 = .ok (.lcmp, 1) := by decide +kernel
theorem dX6_reckon_131 : decode cX6_reckon 131 = .ok (.ifCond .ne 7, 3) := by decide +kernel
theorem dX6_reckon_134 : decode cX6_reckon 134 = .ok (.lconst 1, 1) := by decide +kernel
theorem dX6_reckon_135 : decode cX6_reckon 135 = .ok (.goto 4, 3) := by decide +kernel
theorem dX6_reckon_138 : decode cX6_reckon 138 = .ok (.lconst 0, 1) := by decide +kernel
theorem dX6_reckon_139 : decode cX6_reckon 139 = .ok (.lreturn, 1) := by decide +kernel
theorem dX6_reckon_140 : decode cX6_reckon 140 = .ok (.lload_n 1, 1) := by decide +kernel
theorem dX6_reckon_141 : decode cX6_reckon 141 = .ok (.lload_n 3, 1) := by decide +kernel
theorem dX6_reckon_142 : decode cX6_reckon 142 = .ok (.lcmp, 1) := by decide +kernel
theorem dX6_reckon_143 : decode cX6_reckon 143 = .ok (.ifCond .lt 7, 3) := by decide +kernel
theorem dX6_reckon_146 : decode cX6_reckon 146 = .ok (.lconst 1, 1) := by decide +kernel
theorem dX6_reckon_147 : decode cX6_reckon 147 = .ok (.goto 4, 3) := by decide +kernel
theorem dX6_reckon_150 : decode cX6_reckon 150 = .ok (.lconst 0, 1) := by decide +kernel
theorem dX6_reckon_151 : decode cX6_reckon 151 = .ok (.lreturn, 1) := by decide +kernel
theorem dX6_reckon_152 : decode cX6_reckon 152 = .ok (.lload_n 1, 1) := by decide +kernel
theorem dX6_reckon_153 : decode cX6_reckon 153 = .ok (.lload_n 3, 1) := by decide +kernel
theorem dX6_reckon_154 : decode cX6_reckon 154 = .ok (.lcmp, 1) := by decide +kernel
theorem dX6_reckon_155 : decode cX6_reckon 155 = .ok (.ifCond .le 7, 3) := by decide +kernel
theorem dX6_reckon_158 : decode cX6_reckon 158 = .ok (.lconst 1, 1) := by decide +kernel
theorem dX6_reckon_159 : decode cX6_reckon 159 = .ok (.goto 4, 3) := by decide +kernel
theorem dX6_reckon_162 : decode cX6_reckon 162 = .ok (.lconst 0, 1) := by decide +kernel
theorem dX6_reckon_163 : decode cX6_reckon 163 = .ok (.lreturn, 1) := by decide +kernel
theorem dX6_reckon_164 : decode cX6_reckon 164 = .ok (.lload_n 1, 1) := by decide +kernel
theorem dX6_reckon_165 : decode cX6_reckon 165 = .ok (.lload_n 3, 1) := by decide +kernel
theorem dX6_reckon_166 : decode cX6_reckon 166 = .ok (.land, 1) := by decide +kernel
theorem dX6_reckon_167 : decode cX6_reckon 167 = .ok (.lreturn, 1) := by decide +kernel
theorem dX6_reckon_168 : decode cX6_reckon 168 = .ok (.lload_n 1, 1) := by decide +kernel
theorem dX6_reckon_169 : decode cX6_reckon 169 = .ok (.lload_n 3, 1) := by decide +kernel
theorem dX6_reckon_170 : decode cX6_reckon 170 = .ok (.lor, 1) := by decide +kernel
theorem dX6_reckon_171 : decode cX6_reckon 171 = .ok (.lreturn, 1) := by decide +kernel
theorem dX6_reckon_172 : decode cX6_reckon 172 = .ok (.lconst 0, 1) := by decide +kernel
theorem dX6_reckon_173 : decode cX6_reckon 173 = .ok (.lreturn, 1) := by decide +kernel
theorem dX6_run_0 : decode cX6_run 0 = .ok (.iconst 0, 1) := by decide +kernel
theorem dX6_run_1 : decode cX6_run 1 = .ok (.istore 4, 2) := by decide +kernel
theorem dX6_run_3 : decode cX6_run 3 = .ok (.iload_n 1, 1) := by decide +kernel
theorem dX6_run_4 : decode cX6_run 4 = .ok (.istore 5, 2) := by decide +kernel
theorem dX6_run_6 : decode cX6_run 6 = .ok (.iload 5, 2) := by decide +kernel
theorem dX6_run_8 : decode cX6_run 8 = .ok (.iload_n 2, 1) := by decide +kernel
theorem dX6_run_9 : decode cX6_run 9 = .ok (.if_icmp .ge 159, 3) := by decide +kernel
theorem dX6_run_12 : decode cX6_run 12 = .ok (.aload_n 0, 1) := by decide +kernel
theorem dX6_run_13 : decode cX6_run 13 = .ok (.getfield 9, 3) := by decide +kernel
theorem dX6_run_16 : decode cX6_run 16 = .ok (.iload 5, 2) := by decide +kernel
theorem dX6_run_18 : decode cX6_run 18 = .ok (.iaload, 1) := by decide +kernel
theorem dX6_run_19 : decode cX6_run 19 = .ok (.istore 6, 2) := by decide +kernel
theorem dX6_run_21 : decode cX6_run 21 = .ok (.iload 6, 2) := by decide +kernel
theorem dX6_run_23 : decode cX6_run 23 = .ok (.bipush (-12), 2) := by decide +kernel
theorem dX6_run_25 : decode cX6_run 25 = .ok (.if_icmp .le 45, 3) := by decide +kernel
theorem dX6_run_28 : decode cX6_run 28 = .ok (.iload 4, 2) := by decide +kernel
theorem dX6_run_30 : decode cX6_run 30 = .ok (.aload_n 0, 1) := by decide +kernel
theorem dX6_run_31 : decode cX6_run 31 = .ok (.getfield 24, 3) := by decide +kernel
theorem dX6_run_34 : decode cX6_run 34 = .ok (.arraylength, 1) := by decide +kernel
theorem dX6_run_35 : decode cX6_run 35 = .ok (.if_icmp .lt 5, 3) := by decide +kernel
theorem dX6_run_38 : decode cX6_run 38 = .ok (.lconst 0, 1) := by decide +kernel
theorem dX6_run_39 : decode cX6_run 39 = .ok (.lreturn, 1) := by decide +kernel
theorem dX6_run_40 : decode cX6_run 40 = .ok (.aload_n 0, 1) := by decide +kernel
theorem dX6_run_41 : decode cX6_run 41 = .ok (.getfield 24, 3) := by decide +kernel
theorem dX6_run_44 : decode cX6_run 44 = .ok (.iload 4, 2) := by decide +kernel
theorem dX6_run_46 : decode cX6_run 46 = .ok (.iload 6, 2) := by decide +kernel
theorem dX6_run_48 : decode cX6_run 48 = .ok (.ifCond .lt 9, 3) := by decide +kernel
theorem dX6_run_51 : decode cX6_run 51 = .ok (.iload 6, 2) := by decide +kernel
theorem dX6_run_53 : decode cX6_run 53 = .ok (.i2l, 1) := by decide +kernel
theorem dX6_run_54 : decode cX6_run 54 = .ok (.goto 9, 3) := by decide +kernel
theorem dX6_run_57 : decode cX6_run 57 = .ok (.aload_n 3, 1) := by decide +kernel
theorem dX6_run_58 : decode cX6_run 58 = .ok (.iconst (-1), 1) := by decide +kernel
theorem dX6_run_59 : decode cX6_run 59 = .ok (.iload 6, 2) := by decide +kernel
theorem dX6_run_61 : decode cX6_run 61 = .ok (.isub, 1) := by decide +kernel
theorem dX6_run_62 : decode cX6_run 62 = .ok (.laload, 1) := by decide +kernel
theorem dX6_run_63 : decode cX6_run 63 = .ok (.lastore, 1) := by decide +kernel
theorem dX6_run_64 : decode cX6_run 64 = .ok (.iinc 4 1, 3) := by decide +kernel
theorem dX6_run_67 : decode cX6_run 67 = .ok (.goto 95, 3) := by decide +kernel
theorem dX6_run_70 : decode cX6_run 70 = .ok (.iload 4, 2) := by decide +kernel
theorem dX6_run_72 : decode cX6_run 72 = .ok (.iconst 1, 1) := by decide +kernel
theorem dX6_run_73 : decode cX6_run 73 = .ok (.if_icmp .lt 16, 3) := by decide +kernel
theorem dX6_run_76 : decode cX6_run 76 = .ok (.iload 6, 2) := by decide +kernel
theorem dX6_run_78 : decode cX6_run 78 = .ok (.bipush (-24), 2) := by decide +kernel
theorem dX6_run_80 : decode cX6_run 80 = .ok (.if_icmp .eq 11, 3) := by decide +kernel
theorem dX6_run_83 : decode cX6_run 83 = .ok (.iload 4, 2) := by decide +kernel
theorem dX6_run_85 : decode cX6_run 85 = .ok (.iconst 2, 1) := by decide +kernel
theorem dX6_run_86 : decode cX6_run 86 = .ok (.if_icmp .ge 5, 3) := by decide +kernel
theorem dX6_run_89 : decode cX6_run 89 = .ok (.lconst 0, 1) := by decide +kernel
theorem dX6_run_90 : decode cX6_run 90 = .ok (.lreturn, 1) := by decide +kernel
theorem dX6_run_91 : decode cX6_run 91 = .ok (.iload 6, 2) := by decide +kernel
theorem dX6_run_93 : decode cX6_run 93 = .ok (.bipush (-24), 2) := by decide +kernel
theorem dX6_run_95 : decode cX6_run 95 = .ok (.if_icmp .ne 34, 3) := by decide +kernel
theorem dX6_run_98 : decode cX6_run 98 = .ok (.aload_n 0, 1) := by decide +kernel
theorem dX6_run_99 : decode cX6_run 99 = .ok (.getfield 24, 3) := by decide +kernel
theorem dX6_run_102 : decode cX6_run 102 = .ok (.iload 4, 2) := by decide +kernel
theorem dX6_run_104 : decode cX6_run 104 = .ok (.iconst 1, 1) := by decide +kernel
theorem dX6_run_105 : decode cX6_run 105 = .ok (.isub, 1) := by decide +kernel
theorem dX6_run_106 : decode cX6_run 106 = .ok (.aload_n 0, 1) := by decide +kernel
theorem dX6_run_107 : decode cX6_run 107 = .ok (.getfield 24, 3) := by decide +kernel
theorem dX6_run_110 : decode cX6_run 110 = .ok (.iload 4, 2) := by decide +kernel
theorem dX6_run_112 : decode cX6_run 112 = .ok (.iconst 1, 1) := by decide +kernel
theorem dX6_run_113 : decode cX6_run 113 = .ok (.isub, 1) := by decide +kernel
theorem dX6_run_114 : decode cX6_run 114 = .ok (.laload, 1) := by decide +kernel
theorem dX6_run_115 : decode cX6_run 115 = .ok (.lconst 0, 1) := by decide +kernel
theorem dX6_run_116 : decode cX6_run 116 = .ok (.lcmp, 1) := by decide +kernel
theorem dX6_run_117 : decode cX6_run 117 = .ok (.ifCond .ne 7, 3) := by decide +kernel
theorem dX6_run_120 : decode cX6_run 120 = .ok (.lconst 1, 1) := by decide +kernel
theorem dX6_run_121 : decode cX6_run 121 = .ok (.goto 4, 3) := by decide +kernel
theorem dX6_run_124 : decode cX6_run 124 = .ok (.lconst 0, 1) := by decide +kernel
theorem dX6_run_125 : decode cX6_run 125 = .ok (.lastore, 1) := by decide +kernel
theorem dX6_run_126 : decode cX6_run 126 = .ok (.goto 36, 3) := by decide +kernel
theorem dX6_run_129 : decode cX6_run 129 = .ok (.iinc 4 (-1), 3) := by decide +kernel
theorem dX6_run_132 : decode cX6_run 132 = .ok (.aload_n 0, 1) := by decide +kernel
theorem dX6_run_133 : decode cX6_run 133 = .ok (.getfield 24, 3) := by decide +kernel
theorem dX6_run_136 : decode cX6_run 136 = .ok (.iload 4, 2) := by decide +kernel
theorem dX6_run_138 : decode cX6_run 138 = .ok (.iconst 1, 1) := by decide +kernel
theorem dX6_run_139 : decode cX6_run 139 = .ok (.isub, 1) := by decide +kernel
theorem dX6_run_140 : decode cX6_run 140 = .ok (.iload 6, 2) := by decide +kernel
theorem dX6_run_142 : decode cX6_run 142 = .ok (.aload_n 0, 1) := by decide +kernel
theorem dX6_run_143 : decode cX6_run 143 = .ok (.getfield 24, 3) := by decide +kernel
theorem dX6_run_146 : decode cX6_run 146 = .ok (.iload 4, 2) := by decide +kernel
theorem dX6_run_148 : decode cX6_run 148 = .ok (.iconst 1, 1) := by decide +kernel
theorem dX6_run_149 : decode cX6_run 149 = .ok (.isub, 1) := by decide +kernel
theorem dX6_run_150 : decode cX6_run 150 = .ok (.laload, 1) := by decide +kernel
theorem dX6_run_151 : decode cX6_run 151 = .ok (.aload_n 0, 1) := by decide +kernel
theorem dX6_run_152 : decode cX6_run 152 = .ok (.getfield 24, 3) := by decide +kernel
theorem dX6_run_155 : decode cX6_run 155 = .ok (.iload 4, 2) := by decide +kernel
theorem dX6_run_157 : decode cX6_run 157 = .ok (.laload, 1) := by decide +kernel
theorem dX6_run_158 : decode cX6_run 158 = .ok (.invokestatic 39, 3) := by decide +kernel
theorem dX6_run_161 : decode cX6_run 161 = .ok (.lastore, 1) := by decide +kernel
theorem dX6_run_162 : decode cX6_run 162 = .ok (.iinc 5 1, 3) := by decide +kernel
theorem dX6_run_165 : decode cX6_run 165 = .ok (.goto (-159), 3) := by decide +kernel
theorem dX6_run_168 : decode cX6_run 168 = .ok (.iload 4, 2) := by decide +kernel
theorem dX6_run_170 : decode cX6_run 170 = .ok (.iconst 1, 1) := by decide +kernel
theorem dX6_run_171 : decode cX6_run 171 = .ok (.if_icmp .ge 7, 3) := by decide +kernel
theorem dX6_run_174 : decode cX6_run 174 = .ok (.lconst 0, 1) := by decide +kernel
theorem dX6_run_175 : decode cX6_run 175 = .ok (.goto 12, 3) := by decide +kernel
theorem dX6_run_178 : decode cX6_run 178 = .ok (.aload_n 0, 1) := by decide +kernel
theorem dX6_run_179 : decode cX6_run 179 = .ok (.getfield 24, 3) := by decide +kernel
theorem dX6_run_182 : decode cX6_run 182 = .ok (.iload 4, 2) := by decide +kernel
theorem dX6_run_184 : decode cX6_run 184 = .ok (.iconst 1, 1) := by decide +kernel
theorem dX6_run_185 : decode cX6_run 185 = .ok (.isub, 1) := by decide +kernel
theorem dX6_run_186 : decode cX6_run 186 = .ok (.laload, 1) := by decide +kernel
theorem dX6_run_187 : decode cX6_run 187 = .ok (.lreturn, 1) := by decide +kernel
theorem dX6_want_0 : decode cX6_want 0 = .ok (.iconst 0, 1) := by decide +kernel
theorem dX6_want_1 : decode cX6_want 1 = .ok (.istore_n 2, 1) := by decide +kernel
theorem dX6_want_2 : decode cX6_want 2 = .ok (.iload_n 2, 1) := by decide +kernel
theorem dX6_want_3 : decode cX6_want 3 = .ok (.aload_n 0, 1) := by decide +kernel
theorem dX6_want_4 : decode cX6_want 4 = .ok (.getfield 32, 3) := by decide +kernel
theorem dX6_want_7 : decode cX6_want 7 = .ok (.if_icmp .ge 64, 3) := by decide +kernel
theorem dX6_want_10 : decode cX6_want 10 = .ok (.aload_n 0, 1) := by decide +kernel
theorem dX6_want_11 : decode cX6_want 11 = .ok (.getfield 18, 3) := by decide +kernel
theorem dX6_want_14 : decode cX6_want 14 = .ok (.iload_n 2, 1) := by decide +kernel
theorem dX6_want_15 : decode cX6_want 15 = .ok (.iaload, 1) := by decide +kernel
theorem dX6_want_16 : decode cX6_want 16 = .ok (.aload_n 0, 1) := by decide +kernel
theorem dX6_want_17 : decode cX6_want 17 = .ok (.getfield 21, 3) := by decide +kernel
theorem dX6_want_20 : decode cX6_want 20 = .ok (.iload_n 2, 1) := by decide +kernel
theorem dX6_want_21 : decode cX6_want 21 = .ok (.iaload, 1) := by decide +kernel
theorem dX6_want_22 : decode cX6_want 22 = .ok (.if_icmp .eq 25, 3) := by decide +kernel
theorem dX6_want_25 : decode cX6_want 25 = .ok (.aload_n 0, 1) := by decide +kernel
theorem dX6_want_26 : decode cX6_want 26 = .ok (.aload_n 0, 1) := by decide +kernel
theorem dX6_want_27 : decode cX6_want 27 = .ok (.getfield 18, 3) := by decide +kernel
theorem dX6_want_30 : decode cX6_want 30 = .ok (.iload_n 2, 1) := by decide +kernel
theorem dX6_want_31 : decode cX6_want 31 = .ok (.iaload, 1) := by decide +kernel
theorem dX6_want_32 : decode cX6_want 32 = .ok (.aload_n 0, 1) := by decide +kernel
theorem dX6_want_33 : decode cX6_want 33 = .ok (.getfield 21, 3) := by decide +kernel
theorem dX6_want_36 : decode cX6_want 36 = .ok (.iload_n 2, 1) := by decide +kernel
theorem dX6_want_37 : decode cX6_want 37 = .ok (.iaload, 1) := by decide +kernel
theorem dX6_want_38 : decode cX6_want 38 = .ok (.aload_n 1, 1) := by decide +kernel
theorem dX6_want_39 : decode cX6_want 39 = .ok (.invokevirtual 35, 3) := by decide +kernel
theorem dX6_want_42 : decode cX6_want 42 = .ok (.lconst 0, 1) := by decide +kernel
theorem dX6_want_43 : decode cX6_want 43 = .ok (.lcmp, 1) := by decide +kernel
theorem dX6_want_44 : decode cX6_want 44 = .ok (.ifCond .eq 21, 3) := by decide +kernel
theorem dX6_want_47 : decode cX6_want 47 = .ok (.aload_n 0, 1) := by decide +kernel
theorem dX6_want_48 : decode cX6_want 48 = .ok (.aload_n 0, 1) := by decide +kernel
theorem dX6_want_49 : decode cX6_want 49 = .ok (.getfield 15, 3) := by decide +kernel
theorem dX6_want_52 : decode cX6_want 52 = .ok (.iload_n 2, 1) := by decide +kernel
theorem dX6_want_53 : decode cX6_want 53 = .ok (.iaload, 1) := by decide +kernel
theorem dX6_want_54 : decode cX6_want 54 = .ok (.aload_n 0, 1) := by decide +kernel
theorem dX6_want_55 : decode cX6_want 55 = .ok (.getfield 18, 3) := by decide +kernel
theorem dX6_want_58 : decode cX6_want 58 = .ok (.iload_n 2, 1) := by decide +kernel
theorem dX6_want_59 : decode cX6_want 59 = .ok (.iaload, 1) := by decide +kernel
theorem dX6_want_60 : decode cX6_want 60 = .ok (.aload_n 1, 1) := by decide +kernel
theorem dX6_want_61 : decode cX6_want 61 = .ok (.invokevirtual 35, 3) := by decide +kernel
theorem dX6_want_64 : decode cX6_want 64 = .ok (.lreturn, 1) := by decide +kernel
theorem dX6_want_65 : decode cX6_want 65 = .ok (.iinc 2 1, 3) := by decide +kernel
theorem dX6_want_68 : decode cX6_want 68 = .ok (.goto (-66), 3) := by decide +kernel
theorem dX6_want_71 : decode cX6_want 71 = .ok (.lconst 0, 1) := by decide +kernel
theorem dX6_want_72 : decode cX6_want 72 = .ok (.lreturn, 1) := by decide +kernel
theorem iX6 : ∀ w ∈ u_ws RX6 TX6 7, w ∈ gT := i_of (by decide +kernel)
theorem li_32 : (32 : Int32).toInt = 32 := by decide
theorem li_m12 : ((-12) : Int32).toInt = -12 := by decide
theorem li_m24 : ((-24) : Int32).toInt = -24 := by decide
set_option maxHeartbeats 4000000 in
set_option maxRecDepth 100000 in
theorem t_X5_wantsMore (l : Launch) (dC : Nat → ClassId) (dI : Nat → Nat → Nat) (tys : List (ClassId × FieldType)) (κ : tK) (B : Nat) (ws : va_W) (hT : Ty κ tys B ws) (a0 : Nat) (k_a0 : κ a0 = some 5) (a1 : Int32) (l_a1 : 0 ≤ a1.toInt) (h_a1 : a1.toInt ≤ 5) (a2 : Int32) (l_a2 : 0 ≤ a2.toInt) (h_a2 : a2.toInt ≤ 5) (a3 : Int32) (l_a3 : 0 ≤ a3.toInt) (h_a3 : a3.toInt ≤ 5) (sz : Nat) : Met l yX5_wantsMore (ws_u yX5_wantsMore cX5_wantsMore 4 (some .boolean)) ({ frames := 0, cells := 0, slots := 0, locals := 0 }) (va_Pc [.ref a0, .int a1, .int a2, .int a3] (cPre (dC, dI) tys ws sz)) (va_Qi (fun (r : Int32) (w : va_W) => 0 ≤ r.toInt ∧ r.toInt ≤ 1 ∧ Ty κ tys B w ∧ Sm [] [] κ ws w) (fun w t => cPost (dC, dI) tys w (va_A ws sz) t) (va_A ws sz)) 0 0 (va_A ws sz) := by
  refine Met.ofW (cc := cX5_wantsMore) (maxL := 4) (ret := (some .boolean)) (by decide) rfl ?_
  intro p e s m args below meth c s₁ B0 hml hv
  obtain ⟨rfl, hsz, hP, hK, hD0, hE⟩ := hv
  have hx := B0.exec
  have hb := B0.bytes
  have hr := B0.returns
  have hts0 := atoms_spec (ws := ws_u yX5_wantsMore cX5_wantsMore 4 (some .boolean)) B0.pre
  have hts : ∀ w ∈ gT, w.before _ s = true := fun w h => hts0 w (List.mem_cons_of_mem _ h)
  have hown : s.vm.findClass RX5 = some m.cls := findClass_of_methodNamed B0.named
  have hlocks := B0.notSynchronized
  subst hsz
  have hD := hD0.self (sz := s.heap.size)
  generalize hAe : va_A ws s.heap.size = A at hD ⊢
  have hA : ∀ q : Nat, s.heap.size ≤ q → A q := fun q h => by rw [← hAe]; exact Or.inr h
  have hw : tW (dC, dI) tys κ B A s ws s.heap [] := ⟨hK, hP, hD, va_S.rf, hT⟩
  have hM : Sm [] [] κ ws ws := Sm.rf
  clear hP hK hD hD0 hts0
  have hl := lv_entry ([.ref a0, .int a1, .int a2, .int a3]) (n := 4) (Nat.le_of_ble_eq_true rfl)
  rw [lg_entry_eq]
  generalize (lg_sl ([.ref a0, .int a1, .int a2, .int a3]) ++ List.replicate (4 - (lg_sl ([.ref a0, .int a1, .int a2, .int a3])).length) Slot.unset).toArray = ls at hl ⊢
  have hl : lv_has ls 4 [(0, .ref a0), (1, .int a1), (2, .int a2), (3, .int a3)] := hl
  refine t_start (fun QQ hQ => ?_)
  refine lv_aload_n hx hb dX5_wantsMore_0 rfl (lv_at hl 0 rfl) ?_
  refine t_getr (k1 := 33) (ci := 5) (C := RX5) (T := TX5) (N := 8) hx hb hts iX5 hown hw k_a0 rfl rfl rfl 2 (by decide) (hts _ tw_346) (fun _ h9 => h9) dX5_wantsMore_1 rfl (fun v1 k_v1 f_a0_X5_2 => ?_)
  refine lv_iload_n hx hb dX5_wantsMore_4 rfl (lv_at hl 1 rfl) ?_
  refine lv_bipush (v := 6) hx hb dX5_wantsMore_5 (by decide) ?_
  refine lv_imul hx hb dX5_wantsMore_7 ?_
  refine lv_topi (fun v7 e_v7 => ?_)
  have e_v7 : v7.toInt = a1.toInt * 6 := ml_i e_v7 rfl li_6 (by omega) (by omega)
  refine lv_iload_n hx hb dX5_wantsMore_8 rfl (lv_at hl 2 rfl) ?_
  refine lv_iadd hx hb dX5_wantsMore_9 ?_
  refine lv_topi (fun v9 e_v9 => ?_)
  have e_v9 : v9.toInt = v7.toInt + a2.toInt := ad_i e_v9 rfl rfl (by omega) (by omega)
  refine t_lald hx hb hw k_v1 rfl rfl (by omega) (show v9.toInt < 36 by omega) dX5_wantsMore_10 (fun v10 => ?_)
  refine lv_aload_n hx hb dX5_wantsMore_11 rfl (lv_at hl 0 rfl) ?_
  refine t_getk (ci := 5) (C := RX5) (T := TX5) (N := 8) hx hb hts iX5 hown hw rfl 2 (by decide) (hts _ tw_346) (fun _ h9 => h9) dX5_wantsMore_12 f_a0_X5_2 ?_
  refine lv_iload_n hx hb dX5_wantsMore_15 rfl (lv_at hl 1 rfl) ?_
  refine lv_bipush (v := 6) hx hb dX5_wantsMore_16 (by decide) ?_
  refine lv_imul hx hb dX5_wantsMore_18 ?_
  refine lv_topi (fun v18 e_v18 => ?_)
  have e_v18 : v18.toInt = a1.toInt * 6 := ml_i e_v18 rfl li_6 (by omega) (by omega)
  refine lv_iload_n hx hb dX5_wantsMore_19 rfl (lv_at hl 3 rfl) ?_
  refine lv_iadd hx hb dX5_wantsMore_20 ?_
  refine lv_topi (fun v20 e_v20 => ?_)
  have e_v20 : v20.toInt = v18.toInt + a3.toInt := ad_i e_v20 rfl rfl (by omega) (by omega)
  refine t_lald hx hb hw k_v1 rfl rfl (by omega) (show v20.toInt < 36 by omega) dX5_wantsMore_21 (fun v21 => ?_)
  refine W.lcmp hx hb dX5_wantsMore_22 ?_
  refine lv_topi (fun v22 e_v22 => ?_)
  have l_v22 := i32_lo v22
  have h_v22 := i32_hi v22
  have g_v22 := lgc e_v22
  refine lv_if_le (tgt := 30) hx hb dX5_wantsMore_23 (by decide) (fun c_23 => ?_) (fun c_23 => ?_)
  · simp only [fa_lt, fa_le, fa_eq, li_0] at c_23
    refine lv_iconst (v := 0) hx hb dX5_wantsMore_30 (by decide) ?_
    rw [hQ]
    refine W.widen (k := 0) (n := 0) (Nat.le_refl _) (Nat.le_refl _) ?_
    exact W.zret (v := 0) hx hb hr rfl (fun t ht hW => ⟨⟨0, ws, rfl, ⟨(by decide), (by decide), hw.2.2.2.2, hM⟩, by rw [ht]; exact hw.2.1, va_K.moved hW.alike hw.1, hw.2.2.1⟩, hw.2.2.2.1.F ht⟩) hw.2.2.2.1.2.2 dX5_wantsMore_31
  · simp only [fa_lt, fa_le, fa_eq, li_0] at c_23
    refine lv_iconst (v := 1) hx hb dX5_wantsMore_26 (by decide) ?_
    refine lv_goto (tgt := 31) hx hb dX5_wantsMore_27 (by decide) ?_
    rw [hQ]
    refine W.widen (k := 0) (n := 0) (Nat.le_refl _) (Nat.le_refl _) ?_
    exact W.zret (v := 1) hx hb hr rfl (fun t ht hW => ⟨⟨1, ws, rfl, ⟨(by decide), (by decide), hw.2.2.2.2, hM⟩, by rw [ht]; exact hw.2.1, va_K.moved hW.alike hw.1, hw.2.2.1⟩, hw.2.2.2.1.F ht⟩) hw.2.2.2.1.2.2 dX5_wantsMore_31
set_option maxHeartbeats 4000000 in
set_option maxRecDepth 100000 in
theorem t_X5_mostWanted (l : Launch) (dC : Nat → ClassId) (dI : Nat → Nat → Nat) (tys : List (ClassId × FieldType)) (κ : tK) (B : Nat) (ws : va_W) (hT : Ty κ tys B ws) (a0 : Nat) (k_a0 : κ a0 = some 5) (a1 : Int32) (l_a1 : 0 ≤ a1.toInt) (h_a1 : a1.toInt ≤ 5) (a2 : Int32) (sz : Nat) : Met l yX5_mostWanted (ws_u yX5_mostWanted cX5_mostWanted 5 (some .int)) ({ frames := 1, cells := 0, slots := 0, locals := 23 }) (va_Pc [.ref a0, .int a1, .int a2] (cPre (dC, dI) tys ws sz)) (va_Qi (fun (r : Int32) (w : va_W) => (-1) ≤ r.toInt ∧ r.toInt ≤ 5 ∧ Ty κ tys B w ∧ Sm [] [] κ ws w) (fun w t => cPost (dC, dI) tys w (va_A ws sz) t) (va_A ws sz)) 0 0 (va_A ws sz) := by
  refine Met.ofW (cc := cX5_mostWanted) (maxL := 5) (ret := (some .int)) (by decide) rfl ?_
  intro p e s m args below meth c s₁ B0 hml hv
  obtain ⟨rfl, hsz, hP, hK, hD0, hE⟩ := hv
  have hx := B0.exec
  have hb := B0.bytes
  have hr := B0.returns
  have hts0 := atoms_spec (ws := ws_u yX5_mostWanted cX5_mostWanted 5 (some .int)) B0.pre
  have hts : ∀ w ∈ gT, w.before _ s = true := fun w h => hts0 w (List.mem_cons_of_mem _ h)
  have hown : s.vm.findClass RX5 = some m.cls := findClass_of_methodNamed B0.named
  have hlocks := B0.notSynchronized
  subst hsz
  have hD := hD0.self (sz := s.heap.size)
  generalize hAe : va_A ws s.heap.size = A at hD ⊢
  have hA : ∀ q : Nat, s.heap.size ≤ q → A q := fun q h => by rw [← hAe]; exact Or.inr h
  have hw : tW (dC, dI) tys κ B A s ws s.heap [] := ⟨hK, hP, hD, va_S.rf, hT⟩
  have hM : Sm [] [] κ ws ws := Sm.rf
  clear hP hK hD hD0 hts0
  have l_a2 := i32_lo a2
  have h_a2 := i32_hi a2
  have hl := lv_entry ([.ref a0, .int a1, .int a2]) (n := 5) (Nat.le_of_ble_eq_true rfl)
  rw [lg_entry_eq]
  generalize (lg_sl ([.ref a0, .int a1, .int a2]) ++ List.replicate (5 - (lg_sl ([.ref a0, .int a1, .int a2])).length) Slot.unset).toArray = ls at hl ⊢
  have hl : lv_has ls 5 [(0, .ref a0), (1, .int a1), (2, .int a2)] := hl
  refine t_start (fun QQ hQ => ?_)
  refine lv_iconst (v := (-1)) hx hb dX5_mostWanted_0 (by decide) ?_
  refine lv_istore_n (lv' := [(3, .int (-1)), (0, .ref a0), (1, .int a1), (2, .int a2)]) hx hb dX5_mostWanted_1 rfl hl (by decide) rfl (fun ls hl => ?_)
  refine lv_iconst (v := 0) hx hb dX5_mostWanted_2 (by decide) ?_
  refine lv_istore (lv' := [(4, .int 0), (3, .int (-1)), (0, .ref a0), (1, .int a1), (2, .int a2)]) hx hb dX5_mostWanted_3 hl (by decide) rfl (fun ls hl => ?_)
  have J5 : ∀ (n : Nat) (H : Heap) (locs : List Loc) (ls : Array Slot), (∃ (w5 : va_W) (p5_l3 : Int32) (p5_l4 : Int32), tW (dC, dI) tys κ B A s w5 H locs ∧ Sm [] [] κ ws w5 ∧ (-1) ≤ p5_l3.toInt ∧ p5_l3.toInt ≤ 5 ∧ 0 ≤ p5_l4.toInt ∧ p5_l4.toInt ≤ 6 ∧ lv_has ls 5 [(0, .ref a0), (1, .int a1), (2, .int a2), (3, .int p5_l3), (4, .int p5_l4)] ∧ (6 - p5_l4.toInt).toNat = n) → W p l e (headSpec (ws_u yX5_mostWanted cX5_mostWanted 5 (some .int)) ({ frames := 1, cells := 0, slots := 0, locals := 23 })).room s m ([.ref a0, .int a1, .int a2] : List Value).toArray below meth c H locs 0 0 QQ (F0 m 5 ls []) := by
    refine loopT _ ?_
    intro n_5 H locs ls hI ih_5
    obtain ⟨w5, p5_l3, p5_l4, hw, hM, l_p5_l3, h_p5_l3, l_p5_l4, h_p5_l4, hl, hn_5⟩ := hI
    refine lv_iload hx hb dX5_mostWanted_5 (lv_at hl 4 rfl) ?_
    refine lv_aload_n hx hb dX5_mostWanted_7 rfl (lv_at hl 0 rfl) ?_
    refine t_geti (ci := 5) (C := RX5) (T := TX5) (N := 8) hx hb hts iX5 hown hw k_a0 rfl rfl rfl 0 (by decide) (hts _ tw_344) (fun _ h9 => h9) dX5_mostWanted_8 rfl (fun v8 l_v8 h_v8 f_a0_X5_0 => ?_)
    have l_v8 : 0 ≤ v8.toInt := l_v8
    have h_v8 : v8.toInt ≤ 6 := h_v8
    refine lv_icmp_ge (tgt := 48) hx hb dX5_mostWanted_11 (by decide) (fun c_11 => ?_) (fun c_11 => ?_)
    · simp only [fa_lt, fa_le, fa_eq] at c_11
      refine lv_iload_n hx hb dX5_mostWanted_48 rfl (lv_at hl 3 rfl) ?_
      rw [hQ]
      refine W.widen (k := 0) (n := 0) (Nat.le_refl _) (Nat.le_refl _) ?_
      exact W.iret (v := p5_l3) hx hb hr (fun t ht hW => ⟨⟨p5_l3, w5, rfl, ⟨(by omega), (by omega), hw.2.2.2.2, hM⟩, by rw [ht]; exact hw.2.1, va_K.moved hW.alike hw.1, hw.2.2.1⟩, hw.2.2.2.1.F ht⟩) hw.2.2.2.1.2.2 dX5_mostWanted_49
    · simp only [fa_lt, fa_le, fa_eq] at c_11
      refine lv_iload_n hx hb dX5_mostWanted_14 rfl (lv_at hl 2 rfl) ?_
      refine lv_iload hx hb dX5_mostWanted_15 (lv_at hl 4 rfl) ?_
      refine t_calli (va_runS (As := [.int a2, .int p5_l4]) (rest := []) ⟨hx, hb, hml, hown, hts⟩ (t_X5_isIn l dC dI tys κ B w5 hw.2.2.2.2 a2 p5_l4 (by omega) (by omega) H.size) (va_cwS 2 hts (gUS tw_778 tw_779 tw_10 tw_780) rfl rfl rfl (by decide +kernel) ⟨(Nat.le_of_ble_eq_true rfl), (Nat.le_of_ble_eq_true rfl)⟩) ⟨cPre.blind, cPre.use hw.2.1 hw.1 hw.2.2.1 hE⟩ rfl rfl hl.1 rfl (lv_room (Nat.le_of_ble_eq_true rfl)) dX5_mostWanted_17 ⟨(Nat.le_of_ble_eq_true rfl), (Nat.le_of_ble_eq_true rfl)⟩) hw hA (fun _ _ h => h.2.2.1) (fun v17 w_1 H locs hp hw => ?_)
      obtain ⟨l_v17, h_v17, _, hm⟩ := hp
      have hM := hM.trans hm (by decide) (by decide)
      have f_a0_X5_0 := hm.1 _ _ _ _ f_a0_X5_0 (by decide)
      have J42 : ∀ (H : Heap) (locs : List Loc) (ls : Array Slot) (w42 : va_W) (p42_l3 : Int32), tW (dC, dI) tys κ B A s w42 H locs → Sm [] [] κ ws w42 → (-1) ≤ p42_l3.toInt → p42_l3.toInt ≤ 5 → fld w42 a0 5 0 (.int v8) → lv_has ls 5 [(0, .ref a0), (1, .int a1), (2, .int a2), (3, .int p42_l3), (4, .int p5_l4)] → W p l e (headSpec (ws_u yX5_mostWanted cX5_mostWanted 5 (some .int)) ({ frames := 1, cells := 0, slots := 0, locals := 23 })).room s m ([.ref a0, .int a1, .int a2] : List Value).toArray below meth c H locs 0 0 QQ (F0 m 42 ls []) := by
        intro H locs ls w42 p42_l3 hw hM l_p42_l3 h_p42_l3 f_a0_X5_0 hl
        obtain ⟨v42, e_v42⟩ : ∃ y : Int32, y = p5_l4 + 1 := ⟨_, rfl⟩
        refine lv_iinc (v := v42) (lv' := [(4, .int v42), (0, .ref a0), (1, .int a1), (2, .int a2), (3, .int p42_l3)]) hx hb dX5_mostWanted_42 hl (k := 4) rfl e_v42.symm (by decide) rfl (fun ls hl => ?_)
        have e_v42 : v42.toInt = p5_l4.toInt + 1 := ad_i e_v42 rfl li_1 (by omega) (by omega)
        refine lv_goto (tgt := 5) hx hb dX5_mostWanted_45 (by decide) ?_
        exact ih_5 _ _ _ _ (by omega) ⟨w42, p42_l3, v42, hw, hM, (by omega), (by omega), (by omega), (by omega), (lv_sub hl [1, 2, 3, 4, 0] rfl), rfl⟩
      refine lv_if_eq (tgt := 42) hx hb dX5_mostWanted_20 (by decide) (fun c_20 => ?_) (fun c_20 => ?_)
      · simp only [fa_lt, fa_le, fa_eq, li_0] at c_20
        exact J42 _ _ _ w_1 p5_l3 hw hM (by omega) (by omega) f_a0_X5_0 (lv_sub hl [0, 1, 2, 3, 4] rfl)
      · simp only [fa_lt, fa_le, fa_eq, li_0] at c_20
        refine lv_iload_n hx hb dX5_mostWanted_23 rfl (lv_at hl 3 rfl) ?_
        refine lv_iconst (v := (-1)) hx hb dX5_mostWanted_24 (by decide) ?_
        have J39 : ∀ (H : Heap) (locs : List Loc) (ls : Array Slot) (w39 : va_W), tW (dC, dI) tys κ B A s w39 H locs → Sm [] [] κ ws w39 → fld w39 a0 5 0 (.int v8) → lv_has ls 5 [(0, .ref a0), (1, .int a1), (2, .int a2), (3, .int p5_l3), (4, .int p5_l4)] → W p l e (headSpec (ws_u yX5_mostWanted cX5_mostWanted 5 (some .int)) ({ frames := 1, cells := 0, slots := 0, locals := 23 })).room s m ([.ref a0, .int a1, .int a2] : List Value).toArray below meth c H locs 0 0 QQ (F0 m 39 ls []) := by
          intro H locs ls w39 hw hM f_a0_X5_0 hl
          refine lv_iload hx hb dX5_mostWanted_39 (lv_at hl 4 rfl) ?_
          refine lv_istore_n (lv' := [(3, .int p5_l4), (0, .ref a0), (1, .int a1), (2, .int a2), (4, .int p5_l4)]) hx hb dX5_mostWanted_41 rfl hl (by decide) rfl (fun ls hl => ?_)
          exact J42 _ _ _ w39 p5_l4 hw hM (by omega) (by omega) f_a0_X5_0 (lv_sub hl [1, 2, 3, 0, 4] rfl)
        refine lv_icmp_eq (tgt := 39) hx hb dX5_mostWanted_25 (by decide) (fun c_25 => ?_) (fun c_25 => ?_)
        · simp only [fa_lt, fa_le, fa_eq, li_m1] at c_25
          exact J39 _ _ _ w_1 hw hM f_a0_X5_0 (lv_sub hl [0, 1, 2, 3, 4] rfl)
        · simp only [fa_lt, fa_le, fa_eq, li_m1] at c_25
          refine lv_aload_n hx hb dX5_mostWanted_28 rfl (lv_at hl 0 rfl) ?_
          refine lv_iload_n hx hb dX5_mostWanted_29 rfl (lv_at hl 1 rfl) ?_
          refine lv_iload hx hb dX5_mostWanted_30 (lv_at hl 4 rfl) ?_
          refine lv_iload_n hx hb dX5_mostWanted_32 rfl (lv_at hl 3 rfl) ?_
          refine t_calli (va_runV (As := [.int a1, .int p5_l4, .int p5_l3]) (rest := []) ⟨hx, hb, hml, hown, hts⟩ (t_X5_wantsMore l dC dI tys κ B w_1 hw.2.2.2.2 a0 k_a0 a1 (by omega) (by omega) p5_l4 (by omega) (by omega) p5_l3 (by omega) (by omega) H.size) (cwV 3 hts (gUV tw_800 tw_802 ts_1_7 tw_10 tw_803) rfl rfl rfl (by decide +kernel) ⟨(Nat.le_of_ble_eq_true rfl), (Nat.le_of_ble_eq_true rfl)⟩) ⟨cPre.blind, t_recv hw (ci := 5) k_a0 rfl rfl, cPre.use hw.2.1 hw.1 hw.2.2.1 hE⟩ rfl rfl hl.1 rfl (lv_room (Nat.le_of_ble_eq_true rfl)) dX5_mostWanted_33 ⟨(Nat.le_of_ble_eq_true rfl), (Nat.le_of_ble_eq_true rfl)⟩) hw hA (fun _ _ h => h.2.2.1) (fun v33 w_2 H locs hp hw => ?_)
          obtain ⟨l_v33, h_v33, _, hm⟩ := hp
          have hM := hM.trans hm (by decide) (by decide)
          have f_a0_X5_0 := hm.1 _ _ _ _ f_a0_X5_0 (by decide)
          refine lv_if_eq (tgt := 42) hx hb dX5_mostWanted_36 (by decide) (fun c_36 => ?_) (fun c_36 => ?_)
          · simp only [fa_lt, fa_le, fa_eq, li_0] at c_36
            exact J42 _ _ _ w_2 p5_l3 hw hM (by omega) (by omega) f_a0_X5_0 (lv_sub hl [0, 1, 2, 3, 4] rfl)
          · simp only [fa_lt, fa_le, fa_eq, li_0] at c_36
            exact J39 _ _ _ w_2 hw hM f_a0_X5_0 (lv_sub hl [0, 1, 2, 3, 4] rfl)
  exact J5 _ _ _ _ ⟨ws, (-1), 0, hw, hM, (by decide), (by decide), (by decide), (by decide), (lv_sub hl [2, 3, 4, 1, 0] rfl), rfl⟩
set_option maxHeartbeats 4000000 in
set_option maxRecDepth 100000 in
theorem t_X5_setWordsOf (l : Launch) (dC : Nat → ClassId) (dI : Nat → Nat → Nat) (tys : List (ClassId × FieldType)) (κ : tK) (B : Nat) (ws : va_W) (hT : Ty κ tys B ws) (a0 : Nat) (k_a0 : κ a0 = some 5) (a1 : Int32) (l_a1 : 0 ≤ a1.toInt) (h_a1 : a1.toInt ≤ 5) (a2 : Nat) (k_a2 : κ a2 = some 0) (a3 : Nat) (k_a3 : κ a3 = some 8) (sz : Nat) : Met l yX5_setWordsOf (ws_u yX5_setWordsOf cX5_setWordsOf 4 none) ({ frames := 0, cells := 0, slots := 0, locals := 0 }) (va_Pc [.ref a0, .int a1, .ref a2, .ref a3] (cPre (dC, dI) tys ws sz)) (va_Qv (fun (w : va_W) => Ty κ tys B w ∧ Sm [] [36] κ ws w) (fun w t => cPost (dC, dI) tys w (va_A ws sz) t) (va_A ws sz)) 0 0 (va_A ws sz) := by
  refine Met.ofW (cc := cX5_setWordsOf) (maxL := 4) (ret := none) (by decide) rfl ?_
  intro p e s m args below meth c s₁ B0 hml hv
  obtain ⟨rfl, hsz, hP, hK, hD0, hE⟩ := hv
  have hx := B0.exec
  have hb := B0.bytes
  have hr := B0.returns
  have hts0 := atoms_spec (ws := ws_u yX5_setWordsOf cX5_setWordsOf 4 none) B0.pre
  have hts : ∀ w ∈ gT, w.before _ s = true := fun w h => hts0 w (List.mem_cons_of_mem _ h)
  have hown : s.vm.findClass RX5 = some m.cls := findClass_of_methodNamed B0.named
  have hlocks := B0.notSynchronized
  subst hsz
  have hD := hD0.self (sz := s.heap.size)
  generalize hAe : va_A ws s.heap.size = A at hD ⊢
  have hA : ∀ q : Nat, s.heap.size ≤ q → A q := fun q h => by rw [← hAe]; exact Or.inr h
  have hw : tW (dC, dI) tys κ B A s ws s.heap [] := ⟨hK, hP, hD, va_S.rf, hT⟩
  have hM : Sm [] [36] κ ws ws := Sm.rf
  clear hP hK hD hD0 hts0
  have hl := lv_entry ([.ref a0, .int a1, .ref a2, .ref a3]) (n := 4) (Nat.le_of_ble_eq_true rfl)
  rw [lg_entry_eq]
  generalize (lg_sl ([.ref a0, .int a1, .ref a2, .ref a3]) ++ List.replicate (4 - (lg_sl ([.ref a0, .int a1, .ref a2, .ref a3])).length) Slot.unset).toArray = ls at hl ⊢
  have hl : lv_has ls 4 [(0, .ref a0), (1, .int a1), (2, .ref a2), (3, .ref a3)] := hl
  refine t_start (fun QQ hQ => ?_)
  refine lv_aload_n hx hb dX5_setWordsOf_0 rfl (lv_at hl 0 rfl) ?_
  refine t_getr (k1 := 36) (ci := 5) (C := RX5) (T := TX5) (N := 8) hx hb hts iX5 hown hw k_a0 rfl rfl rfl 6 (by decide) (hts _ tw_354) (fun _ h9 => h9) dX5_setWordsOf_1 rfl (fun v1 k_v1 f_a0_X5_6 => ?_)
  refine lv_iconst (v := 1) hx hb dX5_setWordsOf_4 (by decide) ?_
  refine lv_iload_n hx hb dX5_setWordsOf_5 rfl (lv_at hl 1 rfl) ?_
  refine lv_i2l hx hb dX5_setWordsOf_6 rfl ?_
  refine lv_topl (fun v6 e_v6 => ?_)
  have t_v6 : v6.toInt = a1.toInt := by rw [e_v6, Int32.toInt_toInt64]
  refine t_last hx hb hw k_v1 rfl rfl (by decide) (by decide) dX5_setWordsOf_7 (fun w_1 H locs y hw u => ?_)
  have hM := hM.up2 u k_v1 (by decide)
  have f_a0_X5_6 := u.1 _ _ _ _ f_a0_X5_6
  refine lv_aload_n hx hb dX5_setWordsOf_8 rfl (lv_at hl 0 rfl) ?_
  refine t_getk (ci := 5) (C := RX5) (T := TX5) (N := 8) hx hb hts iX5 hown hw rfl 6 (by decide) (hts _ tw_354) (fun _ h9 => h9) dX5_setWordsOf_9 f_a0_X5_6 ?_
  refine lv_iconst (v := 2) hx hb dX5_setWordsOf_12 (by decide) ?_
  refine lv_aload_n hx hb dX5_setWordsOf_13 rfl (lv_at hl 3 rfl) ?_
  refine t_getr (k1 := 43) (ci := 8) (C := RX8) (T := TX8) (N := 13) hx hb hts iX8 hown hw k_a3 rfl rfl rfl 7 (by decide) (hts _ tw_239) (fun _ h9 => h9) dX5_setWordsOf_14 rfl (fun v14 k_v14 f_a3_X8_7 => ?_)
  refine lv_iload_n hx hb dX5_setWordsOf_17 rfl (lv_at hl 1 rfl) ?_
  refine t_iald hx hb hw k_v14 rfl rfl (by omega) (show a1.toInt < 6 by omega) dX5_setWordsOf_18 (fun v18 r_v18 s_v18 q_v18 => ?_)
  have l_v18 := i32_lo v18
  have h_v18 := i32_hi v18
  refine lv_i2l hx hb dX5_setWordsOf_19 rfl ?_
  refine lv_topl (fun v19 e_v19 => ?_)
  have t_v19 : v19.toInt = v18.toInt := by rw [e_v19, Int32.toInt_toInt64]
  refine t_last hx hb hw k_v1 rfl rfl (by decide) (by decide) dX5_setWordsOf_20 (fun w_2 H locs y hw u => ?_)
  have hM := hM.up2 u k_v1 (by decide)
  have f_a0_X5_6 := u.1 _ _ _ _ f_a0_X5_6
  have f_a3_X8_7 := u.1 _ _ _ _ f_a3_X8_7
  refine lv_aload_n hx hb dX5_setWordsOf_21 rfl (lv_at hl 0 rfl) ?_
  refine t_getk (ci := 5) (C := RX5) (T := TX5) (N := 8) hx hb hts iX5 hown hw rfl 6 (by decide) (hts _ tw_354) (fun _ h9 => h9) dX5_setWordsOf_22 f_a0_X5_6 ?_
  refine lv_iconst (v := 3) hx hb dX5_setWordsOf_25 (by decide) ?_
  refine lv_aload_n hx hb dX5_setWordsOf_26 rfl (lv_at hl 3 rfl) ?_
  refine t_getr (k1 := 44) (ci := 8) (C := RX8) (T := TX8) (N := 13) hx hb hts iX8 hown hw k_a3 rfl rfl rfl 8 (by decide) (hts _ tw_243) (fun _ h9 => h9) dX5_setWordsOf_27 rfl (fun v27 k_v27 f_a3_X8_8 => ?_)
  refine lv_iload_n hx hb dX5_setWordsOf_30 rfl (lv_at hl 1 rfl) ?_
  refine t_iald hx hb hw k_v27 rfl rfl (by omega) (show a1.toInt < 6 by omega) dX5_setWordsOf_31 (fun v31 r_v31 s_v31 q_v31 => ?_)
  have l_v31 := i32_lo v31
  have h_v31 := i32_hi v31
  refine lv_i2l hx hb dX5_setWordsOf_32 rfl ?_
  refine lv_topl (fun v32 e_v32 => ?_)
  have t_v32 : v32.toInt = v31.toInt := by rw [e_v32, Int32.toInt_toInt64]
  refine t_last hx hb hw k_v1 rfl rfl (by decide) (by decide) dX5_setWordsOf_33 (fun w_3 H locs y hw u => ?_)
  have hM := hM.up2 u k_v1 (by decide)
  have f_a0_X5_6 := u.1 _ _ _ _ f_a0_X5_6
  have f_a3_X8_7 := u.1 _ _ _ _ f_a3_X8_7
  have f_a3_X8_8 := u.1 _ _ _ _ f_a3_X8_8
  refine lv_aload_n hx hb dX5_setWordsOf_34 rfl (lv_at hl 0 rfl) ?_
  refine t_getk (ci := 5) (C := RX5) (T := TX5) (N := 8) hx hb hts iX5 hown hw rfl 6 (by decide) (hts _ tw_354) (fun _ h9 => h9) dX5_setWordsOf_35 f_a0_X5_6 ?_
  refine lv_iconst (v := 5) hx hb dX5_setWordsOf_38 (by decide) ?_
  refine lv_aload_n hx hb dX5_setWordsOf_39 rfl (lv_at hl 2 rfl) ?_
  refine t_getr (k1 := 22) (ci := 0) (C := RX0) (T := TX0) (N := 16) hx hb hts iX0 hown hw k_a2 rfl rfl rfl 8 (by decide) (hts _ tw_97) (fun _ h9 => h9) dX5_setWordsOf_40 rfl (fun v40 k_v40 f_a2_X0_8 => ?_)
  refine lv_iload_n hx hb dX5_setWordsOf_43 rfl (lv_at hl 1 rfl) ?_
  refine t_iald hx hb hw k_v40 rfl rfl (by omega) (show a1.toInt < 6 by omega) dX5_setWordsOf_44 (fun v44 r_v44 s_v44 q_v44 => ?_)
  have l_v44 := i32_lo v44
  have h_v44 := i32_hi v44
  refine lv_i2l hx hb dX5_setWordsOf_45 rfl ?_
  refine lv_topl (fun v45 e_v45 => ?_)
  have t_v45 : v45.toInt = v44.toInt := by rw [e_v45, Int32.toInt_toInt64]
  refine t_last hx hb hw k_v1 rfl rfl (by decide) (by decide) dX5_setWordsOf_46 (fun w_4 H locs y hw u => ?_)
  have hM := hM.up2 u k_v1 (by decide)
  have f_a0_X5_6 := u.1 _ _ _ _ f_a0_X5_6
  have f_a3_X8_7 := u.1 _ _ _ _ f_a3_X8_7
  have f_a3_X8_8 := u.1 _ _ _ _ f_a3_X8_8
  have f_a2_X0_8 := u.1 _ _ _ _ f_a2_X0_8
  refine lv_aload_n hx hb dX5_setWordsOf_47 rfl (lv_at hl 0 rfl) ?_
  refine t_getk (ci := 5) (C := RX5) (T := TX5) (N := 8) hx hb hts iX5 hown hw rfl 6 (by decide) (hts _ tw_354) (fun _ h9 => h9) dX5_setWordsOf_48 f_a0_X5_6 ?_
  refine lv_bipush (v := 6) hx hb dX5_setWordsOf_51 (by decide) ?_
  refine lv_aload_n hx hb dX5_setWordsOf_53 rfl (lv_at hl 3 rfl) ?_
  refine t_getr (k1 := 45) (ci := 8) (C := RX8) (T := TX8) (N := 13) hx hb hts iX8 hown hw k_a3 rfl rfl rfl 9 (by decide) (hts _ tw_246) (fun _ h9 => h9) dX5_setWordsOf_54 rfl (fun v54 k_v54 f_a3_X8_9 => ?_)
  refine lv_iload_n hx hb dX5_setWordsOf_57 rfl (lv_at hl 1 rfl) ?_
  refine t_iald hx hb hw k_v54 rfl rfl (by omega) (show a1.toInt < 6 by omega) dX5_setWordsOf_58 (fun v58 r_v58 s_v58 q_v58 => ?_)
  have l_v58 := i32_lo v58
  have h_v58 := i32_hi v58
  refine lv_i2l hx hb dX5_setWordsOf_59 rfl ?_
  refine lv_topl (fun v59 e_v59 => ?_)
  have t_v59 : v59.toInt = v58.toInt := by rw [e_v59, Int32.toInt_toInt64]
  refine t_last hx hb hw k_v1 rfl rfl (by decide) (by decide) dX5_setWordsOf_60 (fun w_5 H locs y hw u => ?_)
  have hM := hM.up2 u k_v1 (by decide)
  have f_a0_X5_6 := u.1 _ _ _ _ f_a0_X5_6
  have f_a3_X8_7 := u.1 _ _ _ _ f_a3_X8_7
  have f_a3_X8_8 := u.1 _ _ _ _ f_a3_X8_8
  have f_a2_X0_8 := u.1 _ _ _ _ f_a2_X0_8
  have f_a3_X8_9 := u.1 _ _ _ _ f_a3_X8_9
  rw [hQ]
  refine W.widen (k := 0) (n := 0) (Nat.le_refl _) (Nat.le_refl _) ?_
  exact W.vret hx hb hr (fun t ht hW => ⟨⟨w_5, rfl, ⟨hw.2.2.2.2, hM⟩, by rw [ht]; exact hw.2.1, va_K.moved hW.alike hw.1, hw.2.2.1⟩, hw.2.2.2.1.F ht⟩) hw.2.2.2.1.2.2 dX5_setWordsOf_61
set_option maxHeartbeats 4000000 in
set_option maxRecDepth 100000 in
theorem t_X6_reckon (l : Launch) (dC : Nat → ClassId) (dI : Nat → Nat → Nat) (tys : List (ClassId × FieldType)) (κ : tK) (B : Nat) (ws : va_W) (hT : Ty κ tys B ws) (a0 : Int32) (l_a0 : (-2147483648) ≤ a0.toInt) (h_a0 : a0.toInt ≤ (-12)) (a1 : Int64) (a2 : Int64) (sz : Nat) : Met l yX6_reckon (ws_u yX6_reckon cX6_reckon 5 (some .long)) ({ frames := 0, cells := 0, slots := 0, locals := 0 }) (va_Pc [.int a0, .long a1, .long a2] (cPre (dC, dI) tys ws sz)) (va_Ql (fun (r : Int64) (w : va_W) => Ty κ tys B w ∧ Sm [] [] κ ws w) (fun w t => cPost (dC, dI) tys w (va_A ws sz) t) (va_A ws sz)) 0 0 (va_A ws sz) := by
  refine Met.ofW (cc := cX6_reckon) (maxL := 5) (ret := (some .long)) (by decide) rfl ?_
  intro p e s m args below meth c s₁ B0 hml hv
  obtain ⟨rfl, hsz, hP, hK, hD0, hE⟩ := hv
  have hx := B0.exec
  have hb := B0.bytes
  have hr := B0.returns
  have hts0 := atoms_spec (ws := ws_u yX6_reckon cX6_reckon 5 (some .long)) B0.pre
  have hts : ∀ w ∈ gT, w.before _ s = true := fun w h => hts0 w (List.mem_cons_of_mem _ h)
  have hown : s.vm.findClass RX6 = some m.cls := findClass_of_methodNamed B0.named
  have hlocks := B0.notSynchronized
  subst hsz
  have hD := hD0.self (sz := s.heap.size)
  generalize hAe : va_A ws s.heap.size = A at hD ⊢
  have hA : ∀ q : Nat, s.heap.size ≤ q → A q := fun q h => by rw [← hAe]; exact Or.inr h
  have hw : tW (dC, dI) tys κ B A s ws s.heap [] := ⟨hK, hP, hD, va_S.rf, hT⟩
  have hM : Sm [] [] κ ws ws := Sm.rf
  clear hP hK hD hD0 hts0
  have hl := lv_entry ([.int a0, .long a1, .long a2]) (n := 5) (Nat.le_of_ble_eq_true rfl)
  rw [lg_entry_eq]
  generalize (lg_sl ([.int a0, .long a1, .long a2]) ++ List.replicate (5 - (lg_sl ([.int a0, .long a1, .long a2])).length) Slot.unset).toArray = ls at hl ⊢
  have hl : lv_has ls 5 [(0, .int a0), (1, .long a1), (3, .long a2)] := hl
  refine t_start (fun QQ hQ => ?_)
  refine lv_iload_n hx hb dX6_reckon_0 rfl (lv_at hl 0 rfl) ?_
  rcases Classical.em (a0.toInt = (-23)) with c_1_0 | c_1_0
  · refine lv_tableIn (tgt := 168) hx hb dX6_reckon_1 (by omega) (by omega) (by rw [c_1_0]; rfl) (by decide) ?_
    refine lv_lload_n hx hb dX6_reckon_168 rfl (lv_at hl 1 rfl) ?_
    refine lv_lload_n hx hb dX6_reckon_169 rfl (lv_at hl 2 rfl) ?_
    refine lv_lor hx hb dX6_reckon_170 ?_
    refine lv_topl (fun v170 e_v170 => ?_)
    rw [hQ]
    refine W.widen (k := 0) (n := 0) (Nat.le_refl _) (Nat.le_refl _) ?_
    exact W.lret (v := v170) hx hb hr (fun t ht hW => ⟨⟨v170, ws, rfl, ⟨hw.2.2.2.2, hM⟩, by rw [ht]; exact hw.2.1, va_K.moved hW.alike hw.1, hw.2.2.1⟩, hw.2.2.2.1.F ht⟩) hw.2.2.2.1.2.2 dX6_reckon_171
  rcases Classical.em (a0.toInt = (-22)) with c_1_1 | c_1_1
  · refine lv_tableIn (tgt := 164) hx hb dX6_reckon_1 (by omega) (by omega) (by rw [c_1_1]; rfl) (by decide) ?_
    refine lv_lload_n hx hb dX6_reckon_164 rfl (lv_at hl 1 rfl) ?_
    refine lv_lload_n hx hb dX6_reckon_165 rfl (lv_at hl 2 rfl) ?_
    refine lv_land hx hb dX6_reckon_166 ?_
    refine lv_topl (fun v166 e_v166 => ?_)
    rw [hQ]
    refine W.widen (k := 0) (n := 0) (Nat.le_refl _) (Nat.le_refl _) ?_
    exact W.lret (v := v166) hx hb hr (fun t ht hW => ⟨⟨v166, ws, rfl, ⟨hw.2.2.2.2, hM⟩, by rw [ht]; exact hw.2.1, va_K.moved hW.alike hw.1, hw.2.2.1⟩, hw.2.2.2.1.F ht⟩) hw.2.2.2.1.2.2 dX6_reckon_167
  rcases Classical.em (a0.toInt = (-21)) with c_1_2 | c_1_2
  · refine lv_tableIn (tgt := 152) hx hb dX6_reckon_1 (by omega) (by omega) (by rw [c_1_2]; rfl) (by decide) ?_
    refine lv_lload_n hx hb dX6_reckon_152 rfl (lv_at hl 1 rfl) ?_
    refine lv_lload_n hx hb dX6_reckon_153 rfl (lv_at hl 2 rfl) ?_
    refine W.lcmp hx hb dX6_reckon_154 ?_
    refine lv_topi (fun v154 e_v154 => ?_)
    have l_v154 := i32_lo v154
    have h_v154 := i32_hi v154
    have g_v154 := lgc e_v154
    refine lv_if_le (tgt := 162) hx hb dX6_reckon_155 (by decide) (fun c_155 => ?_) (fun c_155 => ?_)
    · simp only [fa_lt, fa_le, fa_eq, li_0] at c_155
      refine lv_lconst (v := 0) hx hb dX6_reckon_162 (by decide) ?_
      obtain ⟨v162, e_v162⟩ : ∃ y : Int64, y = 0 := ⟨_, rfl⟩
      refine W.eq (g2 := F0 m 163 ls [.long v162]) (by rw [e_v162]) ?_
      have t_v162 : v162.toInt = 0 := by rw [e_v162]; decide
      rw [hQ]
      refine W.widen (k := 0) (n := 0) (Nat.le_refl _) (Nat.le_refl _) ?_
      exact W.lret (v := v162) hx hb hr (fun t ht hW => ⟨⟨v162, ws, rfl, ⟨hw.2.2.2.2, hM⟩, by rw [ht]; exact hw.2.1, va_K.moved hW.alike hw.1, hw.2.2.1⟩, hw.2.2.2.1.F ht⟩) hw.2.2.2.1.2.2 dX6_reckon_163
    · simp only [fa_lt, fa_le, fa_eq, li_0] at c_155
      refine lv_lconst (v := 1) hx hb dX6_reckon_158 (by decide) ?_
      obtain ⟨v158, e_v158⟩ : ∃ y : Int64, y = 1 := ⟨_, rfl⟩
      refine W.eq (g2 := F0 m 159 ls [.long v158]) (by rw [e_v158]) ?_
      have t_v158 : v158.toInt = 1 := by rw [e_v158]; decide
      refine lv_goto (tgt := 163) hx hb dX6_reckon_159 (by decide) ?_
      rw [hQ]
      refine W.widen (k := 0) (n := 0) (Nat.le_refl _) (Nat.le_refl _) ?_
      exact W.lret (v := v158) hx hb hr (fun t ht hW => ⟨⟨v158, ws, rfl, ⟨hw.2.2.2.2, hM⟩, by rw [ht]; exact hw.2.1, va_K.moved hW.alike hw.1, hw.2.2.1⟩, hw.2.2.2.1.F ht⟩) hw.2.2.2.1.2.2 dX6_reckon_163
  rcases Classical.em (a0.toInt = (-20)) with c_1_3 | c_1_3
  · refine lv_tableIn (tgt := 140) hx hb dX6_reckon_1 (by omega) (by omega) (by rw [c_1_3]; rfl) (by decide) ?_
    refine lv_lload_n hx hb dX6_reckon_140 rfl (lv_at hl 1 rfl) ?_
    refine lv_lload_n hx hb dX6_reckon_141 rfl (lv_at hl 2 rfl) ?_
    refine W.lcmp hx hb dX6_reckon_142 ?_
    refine lv_topi (fun v142 e_v142 => ?_)
    have l_v142 := i32_lo v142
    have h_v142 := i32_hi v142
    have g_v142 := lgc e_v142
    refine lv_if_lt (tgt := 150) hx hb dX6_reckon_143 (by decide) (fun c_143 => ?_) (fun c_143 => ?_)
    · simp only [fa_lt, fa_le, fa_eq, li_0] at c_143
      refine lv_lconst (v := 0) hx hb dX6_reckon_150 (by decide) ?_
      obtain ⟨v150, e_v150⟩ : ∃ y : Int64, y = 0 := ⟨_, rfl⟩
      refine W.eq (g2 := F0 m 151 ls [.long v150]) (by rw [e_v150]) ?_
      have t_v150 : v150.toInt = 0 := by rw [e_v150]; decide
      rw [hQ]
      refine W.widen (k := 0) (n := 0) (Nat.le_refl _) (Nat.le_refl _) ?_
      exact W.lret (v := v150) hx hb hr (fun t ht hW => ⟨⟨v150, ws, rfl, ⟨hw.2.2.2.2, hM⟩, by rw [ht]; exact hw.2.1, va_K.moved hW.alike hw.1, hw.2.2.1⟩, hw.2.2.2.1.F ht⟩) hw.2.2.2.1.2.2 dX6_reckon_151
    · simp only [fa_lt, fa_le, fa_eq, li_0] at c_143
      refine lv_lconst (v := 1) hx hb dX6_reckon_146 (by decide) ?_
      obtain ⟨v146, e_v146⟩ : ∃ y : Int64, y = 1 := ⟨_, rfl⟩
      refine W.eq (g2 := F0 m 147 ls [.long v146]) (by rw [e_v146]) ?_
      have t_v146 : v146.toInt = 1 := by rw [e_v146]; decide
      refine lv_goto (tgt := 151) hx hb dX6_reckon_147 (by decide) ?_
      rw [hQ]
      refine W.widen (k := 0) (n := 0) (Nat.le_refl _) (Nat.le_refl _) ?_
      exact W.lret (v := v146) hx hb hr (fun t ht hW => ⟨⟨v146, ws, rfl, ⟨hw.2.2.2.2, hM⟩, by rw [ht]; exact hw.2.1, va_K.moved hW.alike hw.1, hw.2.2.1⟩, hw.2.2.2.1.F ht⟩) hw.2.2.2.1.2.2 dX6_reckon_151
  rcases Classical.em (a0.toInt = (-19)) with c_1_4 | c_1_4
  · refine lv_tableIn (tgt := 128) hx hb dX6_reckon_1 (by omega) (by omega) (by rw [c_1_4]; rfl) (by decide) ?_
    refine lv_lload_n hx hb dX6_reckon_128 rfl (lv_at hl 1 rfl) ?_
    refine lv_lload_n hx hb dX6_reckon_129 rfl (lv_at hl 2 rfl) ?_
    refine W.lcmp hx hb dX6_reckon_130 ?_
    refine lv_topi (fun v130 e_v130 => ?_)
    have l_v130 := i32_lo v130
    have h_v130 := i32_hi v130
    have g_v130 := lgc e_v130
    refine lv_if_ne (tgt := 138) hx hb dX6_reckon_131 (by decide) (fun c_131 => ?_) (fun c_131 => ?_)
    · simp only [fa_lt, fa_le, fa_eq, li_0] at c_131
      refine lv_lconst (v := 0) hx hb dX6_reckon_138 (by decide) ?_
      obtain ⟨v138, e_v138⟩ : ∃ y : Int64, y = 0 := ⟨_, rfl⟩
      refine W.eq (g2 := F0 m 139 ls [.long v138]) (by rw [e_v138]) ?_
      have t_v138 : v138.toInt = 0 := by rw [e_v138]; decide
      rw [hQ]
      refine W.widen (k := 0) (n := 0) (Nat.le_refl _) (Nat.le_refl _) ?_
      exact W.lret (v := v138) hx hb hr (fun t ht hW => ⟨⟨v138, ws, rfl, ⟨hw.2.2.2.2, hM⟩, by rw [ht]; exact hw.2.1, va_K.moved hW.alike hw.1, hw.2.2.1⟩, hw.2.2.2.1.F ht⟩) hw.2.2.2.1.2.2 dX6_reckon_139
    · simp only [fa_lt, fa_le, fa_eq, li_0] at c_131
      refine lv_lconst (v := 1) hx hb dX6_reckon_134 (by decide) ?_
      obtain ⟨v134, e_v134⟩ : ∃ y : Int64, y = 1 := ⟨_, rfl⟩
      refine W.eq (g2 := F0 m 135 ls [.long v134]) (by rw [e_v134]) ?_
      have t_v134 : v134.toInt = 1 := by rw [e_v134]; decide
      refine lv_goto (tgt := 139) hx hb dX6_reckon_135 (by decide) ?_
      rw [hQ]
      refine W.widen (k := 0) (n := 0) (Nat.le_refl _) (Nat.le_refl _) ?_
      exact W.lret (v := v134) hx hb hr (fun t ht hW => ⟨⟨v134, ws, rfl, ⟨hw.2.2.2.2, hM⟩, by rw [ht]; exact hw.2.1, va_K.moved hW.alike hw.1, hw.2.2.1⟩, hw.2.2.2.1.F ht⟩) hw.2.2.2.1.2.2 dX6_reckon_139
  rcases Classical.em (a0.toInt = (-18)) with c_1_5 | c_1_5
  · refine lv_tableIn (tgt := 116) hx hb dX6_reckon_1 (by omega) (by omega) (by rw [c_1_5]; rfl) (by decide) ?_
    refine lv_lload_n hx hb dX6_reckon_116 rfl (lv_at hl 1 rfl) ?_
    refine lv_lload_n hx hb dX6_reckon_117 rfl (lv_at hl 2 rfl) ?_
    refine W.lcmp hx hb dX6_reckon_118 ?_
    refine lv_topi (fun v118 e_v118 => ?_)
    have l_v118 := i32_lo v118
    have h_v118 := i32_hi v118
    have g_v118 := lgc e_v118
    refine lv_if_gt (tgt := 126) hx hb dX6_reckon_119 (by decide) (fun c_119 => ?_) (fun c_119 => ?_)
    · simp only [fa_lt, fa_le, fa_eq, li_0] at c_119
      refine lv_lconst (v := 0) hx hb dX6_reckon_126 (by decide) ?_
      obtain ⟨v126, e_v126⟩ : ∃ y : Int64, y = 0 := ⟨_, rfl⟩
      refine W.eq (g2 := F0 m 127 ls [.long v126]) (by rw [e_v126]) ?_
      have t_v126 : v126.toInt = 0 := by rw [e_v126]; decide
      rw [hQ]
      refine W.widen (k := 0) (n := 0) (Nat.le_refl _) (Nat.le_refl _) ?_
      exact W.lret (v := v126) hx hb hr (fun t ht hW => ⟨⟨v126, ws, rfl, ⟨hw.2.2.2.2, hM⟩, by rw [ht]; exact hw.2.1, va_K.moved hW.alike hw.1, hw.2.2.1⟩, hw.2.2.2.1.F ht⟩) hw.2.2.2.1.2.2 dX6_reckon_127
    · simp only [fa_lt, fa_le, fa_eq, li_0] at c_119
      refine lv_lconst (v := 1) hx hb dX6_reckon_122 (by decide) ?_
      obtain ⟨v122, e_v122⟩ : ∃ y : Int64, y = 1 := ⟨_, rfl⟩
      refine W.eq (g2 := F0 m 123 ls [.long v122]) (by rw [e_v122]) ?_
      have t_v122 : v122.toInt = 1 := by rw [e_v122]; decide
      refine lv_goto (tgt := 127) hx hb dX6_reckon_123 (by decide) ?_
      rw [hQ]
      refine W.widen (k := 0) (n := 0) (Nat.le_refl _) (Nat.le_refl _) ?_
      exact W.lret (v := v122) hx hb hr (fun t ht hW => ⟨⟨v122, ws, rfl, ⟨hw.2.2.2.2, hM⟩, by rw [ht]; exact hw.2.1, va_K.moved hW.alike hw.1, hw.2.2.1⟩, hw.2.2.2.1.F ht⟩) hw.2.2.2.1.2.2 dX6_reckon_127
  rcases Classical.em (a0.toInt = (-17)) with c_1_6 | c_1_6
  · refine lv_tableIn (tgt := 104) hx hb dX6_reckon_1 (by omega) (by omega) (by rw [c_1_6]; rfl) (by decide) ?_
    refine lv_lload_n hx hb dX6_reckon_104 rfl (lv_at hl 1 rfl) ?_
    refine lv_lload_n hx hb dX6_reckon_105 rfl (lv_at hl 2 rfl) ?_
    refine W.lcmp hx hb dX6_reckon_106 ?_
    refine lv_topi (fun v106 e_v106 => ?_)
    have l_v106 := i32_lo v106
    have h_v106 := i32_hi v106
    have g_v106 := lgc e_v106
    refine lv_if_ge (tgt := 114) hx hb dX6_reckon_107 (by decide) (fun c_107 => ?_) (fun c_107 => ?_)
    · simp only [fa_lt, fa_le, fa_eq, li_0] at c_107
      refine lv_lconst (v := 0) hx hb dX6_reckon_114 (by decide) ?_
      obtain ⟨v114, e_v114⟩ : ∃ y : Int64, y = 0 := ⟨_, rfl⟩
      refine W.eq (g2 := F0 m 115 ls [.long v114]) (by rw [e_v114]) ?_
      have t_v114 : v114.toInt = 0 := by rw [e_v114]; decide
      rw [hQ]
      refine W.widen (k := 0) (n := 0) (Nat.le_refl _) (Nat.le_refl _) ?_
      exact W.lret (v := v114) hx hb hr (fun t ht hW => ⟨⟨v114, ws, rfl, ⟨hw.2.2.2.2, hM⟩, by rw [ht]; exact hw.2.1, va_K.moved hW.alike hw.1, hw.2.2.1⟩, hw.2.2.2.1.F ht⟩) hw.2.2.2.1.2.2 dX6_reckon_115
    · simp only [fa_lt, fa_le, fa_eq, li_0] at c_107
      refine lv_lconst (v := 1) hx hb dX6_reckon_110 (by decide) ?_
      obtain ⟨v110, e_v110⟩ : ∃ y : Int64, y = 1 := ⟨_, rfl⟩
      refine W.eq (g2 := F0 m 111 ls [.long v110]) (by rw [e_v110]) ?_
      have t_v110 : v110.toInt = 1 := by rw [e_v110]; decide
      refine lv_goto (tgt := 115) hx hb dX6_reckon_111 (by decide) ?_
      rw [hQ]
      refine W.widen (k := 0) (n := 0) (Nat.le_refl _) (Nat.le_refl _) ?_
      exact W.lret (v := v110) hx hb hr (fun t ht hW => ⟨⟨v110, ws, rfl, ⟨hw.2.2.2.2, hM⟩, by rw [ht]; exact hw.2.1, va_K.moved hW.alike hw.1, hw.2.2.1⟩, hw.2.2.2.1.F ht⟩) hw.2.2.2.1.2.2 dX6_reckon_115
  rcases Classical.em (a0.toInt = (-16)) with c_1_7 | c_1_7
  · refine lv_tableIn (tgt := 90) hx hb dX6_reckon_1 (by omega) (by omega) (by rw [c_1_7]; rfl) (by decide) ?_
    refine lv_lload_n hx hb dX6_reckon_90 rfl (lv_at hl 2 rfl) ?_
    refine lv_lconst (v := 0) hx hb dX6_reckon_91 (by decide) ?_
    obtain ⟨v91, e_v91⟩ : ∃ y : Int64, y = 0 := ⟨_, rfl⟩
    refine W.eq (g2 := F0 m 92 ls [.long v91, .long a2]) (by rw [e_v91]) ?_
    have t_v91 : v91.toInt = 0 := by rw [e_v91]; decide
    refine W.lcmp hx hb dX6_reckon_92 ?_
    refine lv_topi (fun v92 e_v92 => ?_)
    have l_v92 := i32_lo v92
    have h_v92 := i32_hi v92
    have g_v92 := lgc e_v92
    refine lv_if_ne (tgt := 100) hx hb dX6_reckon_93 (by decide) (fun c_93 => ?_) (fun c_93 => ?_)
    · simp only [fa_lt, fa_le, fa_eq, li_0] at c_93
      refine lv_lload_n hx hb dX6_reckon_100 rfl (lv_at hl 1 rfl) ?_
      refine lv_lload_n hx hb dX6_reckon_101 rfl (lv_at hl 2 rfl) ?_
      refine lv_lrem hx hb dX6_reckon_102 (fun h9 => c_93 (by rw [e_v92, h9, e_v91]; decide)) ?_
      refine lv_topl (fun v102 e_v102 => ?_)
      rw [hQ]
      refine W.widen (k := 0) (n := 0) (Nat.le_refl _) (Nat.le_refl _) ?_
      exact W.lret (v := v102) hx hb hr (fun t ht hW => ⟨⟨v102, ws, rfl, ⟨hw.2.2.2.2, hM⟩, by rw [ht]; exact hw.2.1, va_K.moved hW.alike hw.1, hw.2.2.1⟩, hw.2.2.2.1.F ht⟩) hw.2.2.2.1.2.2 dX6_reckon_103
    · simp only [fa_lt, fa_le, fa_eq, li_0] at c_93
      refine lv_lconst (v := 0) hx hb dX6_reckon_96 (by decide) ?_
      obtain ⟨v96, e_v96⟩ : ∃ y : Int64, y = 0 := ⟨_, rfl⟩
      refine W.eq (g2 := F0 m 97 ls [.long v96]) (by rw [e_v96]) ?_
      have t_v96 : v96.toInt = 0 := by rw [e_v96]; decide
      refine lv_goto (tgt := 103) hx hb dX6_reckon_97 (by decide) ?_
      rw [hQ]
      refine W.widen (k := 0) (n := 0) (Nat.le_refl _) (Nat.le_refl _) ?_
      exact W.lret (v := v96) hx hb hr (fun t ht hW => ⟨⟨v96, ws, rfl, ⟨hw.2.2.2.2, hM⟩, by rw [ht]; exact hw.2.1, va_K.moved hW.alike hw.1, hw.2.2.1⟩, hw.2.2.2.1.F ht⟩) hw.2.2.2.1.2.2 dX6_reckon_103
  rcases Classical.em (a0.toInt = (-15)) with c_1_8 | c_1_8
  · refine lv_tableIn (tgt := 76) hx hb dX6_reckon_1 (by omega) (by omega) (by rw [c_1_8]; rfl) (by decide) ?_
    refine lv_lload_n hx hb dX6_reckon_76 rfl (lv_at hl 2 rfl) ?_
    refine lv_lconst (v := 0) hx hb dX6_reckon_77 (by decide) ?_
    obtain ⟨v77, e_v77⟩ : ∃ y : Int64, y = 0 := ⟨_, rfl⟩
    refine W.eq (g2 := F0 m 78 ls [.long v77, .long a2]) (by rw [e_v77]) ?_
    have t_v77 : v77.toInt = 0 := by rw [e_v77]; decide
    refine W.lcmp hx hb dX6_reckon_78 ?_
    refine lv_topi (fun v78 e_v78 => ?_)
    have l_v78 := i32_lo v78
    have h_v78 := i32_hi v78
    have g_v78 := lgc e_v78
    refine lv_if_ne (tgt := 86) hx hb dX6_reckon_79 (by decide) (fun c_79 => ?_) (fun c_79 => ?_)
    · simp only [fa_lt, fa_le, fa_eq, li_0] at c_79
      refine lv_lload_n hx hb dX6_reckon_86 rfl (lv_at hl 1 rfl) ?_
      refine lv_lload_n hx hb dX6_reckon_87 rfl (lv_at hl 2 rfl) ?_
      refine lv_ldiv hx hb dX6_reckon_88 (fun h9 => c_79 (by rw [e_v78, h9, e_v77]; decide)) ?_
      refine lv_topl (fun v88 e_v88 => ?_)
      rw [hQ]
      refine W.widen (k := 0) (n := 0) (Nat.le_refl _) (Nat.le_refl _) ?_
      exact W.lret (v := v88) hx hb hr (fun t ht hW => ⟨⟨v88, ws, rfl, ⟨hw.2.2.2.2, hM⟩, by rw [ht]; exact hw.2.1, va_K.moved hW.alike hw.1, hw.2.2.1⟩, hw.2.2.2.1.F ht⟩) hw.2.2.2.1.2.2 dX6_reckon_89
    · simp only [fa_lt, fa_le, fa_eq, li_0] at c_79
      refine lv_lconst (v := 0) hx hb dX6_reckon_82 (by decide) ?_
      obtain ⟨v82, e_v82⟩ : ∃ y : Int64, y = 0 := ⟨_, rfl⟩
      refine W.eq (g2 := F0 m 83 ls [.long v82]) (by rw [e_v82]) ?_
      have t_v82 : v82.toInt = 0 := by rw [e_v82]; decide
      refine lv_goto (tgt := 89) hx hb dX6_reckon_83 (by decide) ?_
      rw [hQ]
      refine W.widen (k := 0) (n := 0) (Nat.le_refl _) (Nat.le_refl _) ?_
      exact W.lret (v := v82) hx hb hr (fun t ht hW => ⟨⟨v82, ws, rfl, ⟨hw.2.2.2.2, hM⟩, by rw [ht]; exact hw.2.1, va_K.moved hW.alike hw.1, hw.2.2.1⟩, hw.2.2.2.1.F ht⟩) hw.2.2.2.1.2.2 dX6_reckon_89
  rcases Classical.em (a0.toInt = (-14)) with c_1_9 | c_1_9
  · refine lv_tableIn (tgt := 72) hx hb dX6_reckon_1 (by omega) (by omega) (by rw [c_1_9]; rfl) (by decide) ?_
    refine lv_lload_n hx hb dX6_reckon_72 rfl (lv_at hl 1 rfl) ?_
    refine lv_lload_n hx hb dX6_reckon_73 rfl (lv_at hl 2 rfl) ?_
    refine lv_lmul hx hb dX6_reckon_74 ?_
    refine lv_topl (fun v74 e_v74 => ?_)
    rw [hQ]
    refine W.widen (k := 0) (n := 0) (Nat.le_refl _) (Nat.le_refl _) ?_
    exact W.lret (v := v74) hx hb hr (fun t ht hW => ⟨⟨v74, ws, rfl, ⟨hw.2.2.2.2, hM⟩, by rw [ht]; exact hw.2.1, va_K.moved hW.alike hw.1, hw.2.2.1⟩, hw.2.2.2.1.F ht⟩) hw.2.2.2.1.2.2 dX6_reckon_75
  rcases Classical.em (a0.toInt = (-13)) with c_1_10 | c_1_10
  · refine lv_tableIn (tgt := 68) hx hb dX6_reckon_1 (by omega) (by omega) (by rw [c_1_10]; rfl) (by decide) ?_
    refine lv_lload_n hx hb dX6_reckon_68 rfl (lv_at hl 1 rfl) ?_
    refine lv_lload_n hx hb dX6_reckon_69 rfl (lv_at hl 2 rfl) ?_
    refine lv_lsub hx hb dX6_reckon_70 ?_
    refine lv_topl (fun v70 e_v70 => ?_)
    rw [hQ]
    refine W.widen (k := 0) (n := 0) (Nat.le_refl _) (Nat.le_refl _) ?_
    exact W.lret (v := v70) hx hb hr (fun t ht hW => ⟨⟨v70, ws, rfl, ⟨hw.2.2.2.2, hM⟩, by rw [ht]; exact hw.2.1, va_K.moved hW.alike hw.1, hw.2.2.1⟩, hw.2.2.2.1.F ht⟩) hw.2.2.2.1.2.2 dX6_reckon_71
  rcases Classical.em (a0.toInt = (-12)) with c_1_11 | c_1_11
  · refine lv_tableIn (tgt := 64) hx hb dX6_reckon_1 (by omega) (by omega) (by rw [c_1_11]; rfl) (by decide) ?_
    refine lv_lload_n hx hb dX6_reckon_64 rfl (lv_at hl 1 rfl) ?_
    refine lv_lload_n hx hb dX6_reckon_65 rfl (lv_at hl 2 rfl) ?_
    refine lv_ladd hx hb dX6_reckon_66 ?_
    refine lv_topl (fun v66 e_v66 => ?_)
    rw [hQ]
    refine W.widen (k := 0) (n := 0) (Nat.le_refl _) (Nat.le_refl _) ?_
    exact W.lret (v := v66) hx hb hr (fun t ht hW => ⟨⟨v66, ws, rfl, ⟨hw.2.2.2.2, hM⟩, by rw [ht]; exact hw.2.1, va_K.moved hW.alike hw.1, hw.2.2.1⟩, hw.2.2.2.1.F ht⟩) hw.2.2.2.1.2.2 dX6_reckon_67
  · refine lv_tableOut (tgt := 172) hx hb dX6_reckon_1 (by omega) (by decide) ?_
    refine lv_lconst (v := 0) hx hb dX6_reckon_172 (by decide) ?_
    obtain ⟨v172, e_v172⟩ : ∃ y : Int64, y = 0 := ⟨_, rfl⟩
    refine W.eq (g2 := F0 m 173 ls [.long v172]) (by rw [e_v172]) ?_
    have t_v172 : v172.toInt = 0 := by rw [e_v172]; decide
    rw [hQ]
    refine W.widen (k := 0) (n := 0) (Nat.le_refl _) (Nat.le_refl _) ?_
    exact W.lret (v := v172) hx hb hr (fun t ht hW => ⟨⟨v172, ws, rfl, ⟨hw.2.2.2.2, hM⟩, by rw [ht]; exact hw.2.1, va_K.moved hW.alike hw.1, hw.2.2.1⟩, hw.2.2.2.1.F ht⟩) hw.2.2.2.1.2.2 dX6_reckon_173
set_option maxHeartbeats 4000000 in
set_option maxRecDepth 100000 in
theorem t_X6_run (l : Launch) (dC : Nat → ClassId) (dI : Nat → Nat → Nat) (tys : List (ClassId × FieldType)) (κ : tK) (B : Nat) (ws : va_W) (hT : Ty κ tys B ws) (a0 : Nat) (k_a0 : κ a0 = some 6) (a1 : Int32) (l_a1 : 0 ≤ a1.toInt) (h_a1 : a1.toInt ≤ 400) (a2 : Int32) (l_a2 : 0 ≤ a2.toInt) (h_a2 : a2.toInt ≤ 400) (a3 : Nat) (k_a3 : κ a3 = some 36) (sz : Nat) : Met l yX6_run (ws_u yX6_run cX6_run 7 (some .long)) ({ frames := 1, cells := 0, slots := 0, locals := 24 }) (va_Pc [.ref a0, .int a1, .int a2, .ref a3] (cPre (dC, dI) tys ws sz)) (va_Ql (fun (r : Int64) (w : va_W) => Ty κ tys B w ∧ Sm [] [42] κ ws w) (fun w t => cPost (dC, dI) tys w (va_A ws sz) t) (va_A ws sz)) 0 0 (va_A ws sz) := by
  refine Met.ofW (cc := cX6_run) (maxL := 7) (ret := (some .long)) (by decide) rfl ?_
  intro p e s m args below meth c s₁ B0 hml hv
  obtain ⟨rfl, hsz, hP, hK, hD0, hE⟩ := hv
  have hx := B0.exec
  have hb := B0.bytes
  have hr := B0.returns
  have hts0 := atoms_spec (ws := ws_u yX6_run cX6_run 7 (some .long)) B0.pre
  have hts : ∀ w ∈ gT, w.before _ s = true := fun w h => hts0 w (List.mem_cons_of_mem _ h)
  have hown : s.vm.findClass RX6 = some m.cls := findClass_of_methodNamed B0.named
  have hlocks := B0.notSynchronized
  subst hsz
  have hD := hD0.self (sz := s.heap.size)
  generalize hAe : va_A ws s.heap.size = A at hD ⊢
  have hA : ∀ q : Nat, s.heap.size ≤ q → A q := fun q h => by rw [← hAe]; exact Or.inr h
  have hw : tW (dC, dI) tys κ B A s ws s.heap [] := ⟨hK, hP, hD, va_S.rf, hT⟩
  have hM : Sm [] [42] κ ws ws := Sm.rf
  clear hP hK hD hD0 hts0
  have hl := lv_entry ([.ref a0, .int a1, .int a2, .ref a3]) (n := 7) (Nat.le_of_ble_eq_true rfl)
  rw [lg_entry_eq]
  generalize (lg_sl ([.ref a0, .int a1, .int a2, .ref a3]) ++ List.replicate (7 - (lg_sl ([.ref a0, .int a1, .int a2, .ref a3])).length) Slot.unset).toArray = ls at hl ⊢
  have hl : lv_has ls 7 [(0, .ref a0), (1, .int a1), (2, .int a2), (3, .ref a3)] := hl
  refine t_start (fun QQ hQ => ?_)
  refine lv_iconst (v := 0) hx hb dX6_run_0 (by decide) ?_
  refine lv_istore (lv' := [(4, .int 0), (0, .ref a0), (1, .int a1), (2, .int a2), (3, .ref a3)]) hx hb dX6_run_1 hl (by decide) rfl (fun ls hl => ?_)
  refine lv_iload_n hx hb dX6_run_3 rfl (lv_at hl 2 rfl) ?_
  refine lv_istore (lv' := [(5, .int a1), (4, .int 0), (0, .ref a0), (1, .int a1), (2, .int a2), (3, .ref a3)]) hx hb dX6_run_4 hl (by decide) rfl (fun ls hl => ?_)
  have J6 : ∀ (n : Nat) (H : Heap) (locs : List Loc) (ls : Array Slot), (∃ (w6 : va_W) (p6_l4 : Int32) (p6_l5 : Int32), tW (dC, dI) tys κ B A s w6 H locs ∧ Sm [] [42] κ ws w6 ∧ 0 ≤ p6_l4.toInt ∧ p6_l4.toInt ≤ 32 ∧ 0 ≤ p6_l5.toInt ∧ p6_l5.toInt ≤ 400 ∧ lv_has ls 7 [(0, .ref a0), (1, .int a1), (2, .int a2), (3, .ref a3), (4, .int p6_l4), (5, .int p6_l5)] ∧ (400 - p6_l5.toInt).toNat = n) → W p l e (headSpec (ws_u yX6_run cX6_run 7 (some .long)) ({ frames := 1, cells := 0, slots := 0, locals := 24 })).room s m ([.ref a0, .int a1, .int a2, .ref a3] : List Value).toArray below meth c H locs 0 0 QQ (F0 m 6 ls []) := by
    refine loopT _ ?_
    intro n_6 H locs ls hI ih_6
    obtain ⟨w6, p6_l4, p6_l5, hw, hM, l_p6_l4, h_p6_l4, l_p6_l5, h_p6_l5, hl, hn_6⟩ := hI
    refine lv_iload hx hb dX6_run_6 (lv_at hl 5 rfl) ?_
    refine lv_iload_n hx hb dX6_run_8 rfl (lv_at hl 2 rfl) ?_
    refine lv_icmp_ge (tgt := 168) hx hb dX6_run_9 (by decide) (fun c_9 => ?_) (fun c_9 => ?_)
    · simp only [fa_lt, fa_le, fa_eq] at c_9
      refine lv_iload hx hb dX6_run_168 (lv_at hl 4 rfl) ?_
      refine lv_iconst (v := 1) hx hb dX6_run_170 (by decide) ?_
      refine lv_icmp_ge (tgt := 178) hx hb dX6_run_171 (by decide) (fun c_171 => ?_) (fun c_171 => ?_)
      · simp only [fa_lt, fa_le, fa_eq, li_1] at c_171
        refine lv_aload_n hx hb dX6_run_178 rfl (lv_at hl 0 rfl) ?_
        refine t_getr (k1 := 42) (ci := 6) (C := RX6) (T := TX6) (N := 7) hx hb hts iX6 hown hw k_a0 rfl rfl rfl 6 (by decide) (hts _ tw_189) (fun _ h9 => h9) dX6_run_179 rfl (fun v179 k_v179 f_a0_X6_6 => ?_)
        refine lv_iload hx hb dX6_run_182 (lv_at hl 4 rfl) ?_
        refine lv_iconst (v := 1) hx hb dX6_run_184 (by decide) ?_
        refine lv_isub hx hb dX6_run_185 ?_
        refine lv_topi (fun v185 e_v185 => ?_)
        have e_v185 : v185.toInt = p6_l4.toInt - 1 := sb_i e_v185 rfl li_1 (by omega) (by omega)
        refine t_lald hx hb hw k_v179 rfl rfl (by omega) (show v185.toInt < 32 by omega) dX6_run_186 (fun v186 => ?_)
        rw [hQ]
        refine W.widen (k := 0) (n := 0) (Nat.le_refl _) (Nat.le_refl _) ?_
        exact W.lret (v := v186) hx hb hr (fun t ht hW => ⟨⟨v186, w6, rfl, ⟨hw.2.2.2.2, hM⟩, by rw [ht]; exact hw.2.1, va_K.moved hW.alike hw.1, hw.2.2.1⟩, hw.2.2.2.1.F ht⟩) hw.2.2.2.1.2.2 dX6_run_187
      · simp only [fa_lt, fa_le, fa_eq, li_1] at c_171
        refine lv_lconst (v := 0) hx hb dX6_run_174 (by decide) ?_
        obtain ⟨v174, e_v174⟩ : ∃ y : Int64, y = 0 := ⟨_, rfl⟩
        refine W.eq (g2 := F0 m 175 ls [.long v174]) (by rw [e_v174]) ?_
        have t_v174 : v174.toInt = 0 := by rw [e_v174]; decide
        refine lv_goto (tgt := 187) hx hb dX6_run_175 (by decide) ?_
        rw [hQ]
        refine W.widen (k := 0) (n := 0) (Nat.le_refl _) (Nat.le_refl _) ?_
        exact W.lret (v := v174) hx hb hr (fun t ht hW => ⟨⟨v174, w6, rfl, ⟨hw.2.2.2.2, hM⟩, by rw [ht]; exact hw.2.1, va_K.moved hW.alike hw.1, hw.2.2.1⟩, hw.2.2.2.1.F ht⟩) hw.2.2.2.1.2.2 dX6_run_187
    · simp only [fa_lt, fa_le, fa_eq] at c_9
      refine lv_aload_n hx hb dX6_run_12 rfl (lv_at hl 0 rfl) ?_
      refine t_getr (k1 := 38) (ci := 6) (C := RX6) (T := TX6) (N := 7) hx hb hts iX6 hown hw k_a0 rfl rfl rfl 0 (by decide) (hts _ tw_183) (fun _ h9 => h9) dX6_run_13 rfl (fun v13 k_v13 f_a0_X6_0 => ?_)
      refine lv_iload hx hb dX6_run_16 (lv_at hl 5 rfl) ?_
      refine t_iald hx hb hw k_v13 rfl rfl (by omega) (show p6_l5.toInt < 400 by omega) dX6_run_18 (fun v18 r_v18 s_v18 q_v18 => ?_)
      have l_v18 := i32_lo v18
      have h_v18 := i32_hi v18
      refine lv_istore (lv' := [(6, .int v18), (0, .ref a0), (1, .int a1), (2, .int a2), (3, .ref a3), (4, .int p6_l4), (5, .int p6_l5)]) hx hb dX6_run_19 hl (by decide) rfl (fun ls hl => ?_)
      refine lv_iload hx hb dX6_run_21 (lv_at hl 0 rfl) ?_
      refine lv_bipush (v := (-12)) hx hb dX6_run_23 (by decide) ?_
      have J162 : ∀ (H : Heap) (locs : List Loc) (ls : Array Slot) (w162 : va_W) (p162_l4 : Int32), tW (dC, dI) tys κ B A s w162 H locs → Sm [] [42] κ ws w162 → 1 ≤ p162_l4.toInt → p162_l4.toInt ≤ 32 → fld w162 a0 6 0 (.ref v13) → lv_has ls 7 [(0, .ref a0), (1, .int a1), (2, .int a2), (3, .ref a3), (4, .int p162_l4), (5, .int p6_l5), (6, .int v18)] → W p l e (headSpec (ws_u yX6_run cX6_run 7 (some .long)) ({ frames := 1, cells := 0, slots := 0, locals := 24 })).room s m ([.ref a0, .int a1, .int a2, .ref a3] : List Value).toArray below meth c H locs 0 0 QQ (F0 m 162 ls []) := by
        intro H locs ls w162 p162_l4 hw hM l_p162_l4 h_p162_l4 f_a0_X6_0 hl
        obtain ⟨v162, e_v162⟩ : ∃ y : Int32, y = p6_l5 + 1 := ⟨_, rfl⟩
        refine lv_iinc (v := v162) (lv' := [(5, .int v162), (0, .ref a0), (1, .int a1), (2, .int a2), (3, .ref a3), (4, .int p162_l4), (6, .int v18)]) hx hb dX6_run_162 hl (k := 5) rfl e_v162.symm (by decide) rfl (fun ls hl => ?_)
        have e_v162 : v162.toInt = p6_l5.toInt + 1 := ad_i e_v162 rfl li_1 (by omega) (by omega)
        refine lv_goto (tgt := 6) hx hb dX6_run_165 (by decide) ?_
        exact ih_6 _ _ _ _ (by omega) ⟨w162, p162_l4, v162, hw, hM, (by omega), (by omega), (by omega), (by omega), (lv_sub hl [1, 2, 3, 4, 5, 0] rfl), rfl⟩
      refine lv_icmp_le (tgt := 70) hx hb dX6_run_25 (by decide) (fun c_25 => ?_) (fun c_25 => ?_)
      · simp only [fa_lt, fa_le, fa_eq, li_m12] at c_25
        refine lv_iload hx hb dX6_run_70 (lv_at hl 5 rfl) ?_
        refine lv_iconst (v := 1) hx hb dX6_run_72 (by decide) ?_
        refine lv_icmp_lt (tgt := 89) hx hb dX6_run_73 (by decide) (fun c_73 => ?_) (fun c_73 => ?_)
        · simp only [fa_lt, fa_le, fa_eq, li_1] at c_73
          refine lv_lconst (v := 0) hx hb dX6_run_89 (by decide) ?_
          obtain ⟨v89, e_v89⟩ : ∃ y : Int64, y = 0 := ⟨_, rfl⟩
          refine W.eq (g2 := F0 m 90 ls [.long v89]) (by rw [e_v89]) ?_
          have t_v89 : v89.toInt = 0 := by rw [e_v89]; decide
          rw [hQ]
          refine W.widen (k := 0) (n := 0) (Nat.le_refl _) (Nat.le_refl _) ?_
          exact W.lret (v := v89) hx hb hr (fun t ht hW => ⟨⟨v89, w6, rfl, ⟨hw.2.2.2.2, hM⟩, by rw [ht]; exact hw.2.1, va_K.moved hW.alike hw.1, hw.2.2.1⟩, hw.2.2.2.1.F ht⟩) hw.2.2.2.1.2.2 dX6_run_90
        · simp only [fa_lt, fa_le, fa_eq, li_1] at c_73
          refine lv_iload hx hb dX6_run_76 (lv_at hl 0 rfl) ?_
          refine lv_bipush (v := (-24)) hx hb dX6_run_78 (by decide) ?_
          refine lv_icmp_eq (tgt := 91) hx hb dX6_run_80 (by decide) (fun c_80 => ?_) (fun c_80 => ?_)
          · simp only [fa_lt, fa_le, fa_eq, li_m24] at c_80
            refine lv_iload hx hb dX6_run_91 (lv_at hl 0 rfl) ?_
            refine lv_bipush (v := (-24)) hx hb dX6_run_93 (by decide) ?_
            refine lv_icmp_ne (tgt := 129) hx hb dX6_run_95 (by decide) (fun c_95 => by exfalso; simp only [fa_lt, fa_le, fa_eq, li_m24] at c_95; omega) (fun c_95 => ?_)
            simp only [fa_lt, fa_le, fa_eq, li_m24] at c_95
            refine lv_aload_n hx hb dX6_run_98 rfl (lv_at hl 1 rfl) ?_
            refine t_getr (k1 := 42) (ci := 6) (C := RX6) (T := TX6) (N := 7) hx hb hts iX6 hown hw k_a0 rfl rfl rfl 6 (by decide) (hts _ tw_189) (fun _ h9 => h9) dX6_run_99 rfl (fun v99 k_v99 f_a0_X6_6 => ?_)
            refine lv_iload hx hb dX6_run_102 (lv_at hl 5 rfl) ?_
            refine lv_iconst (v := 1) hx hb dX6_run_104 (by decide) ?_
            refine lv_isub hx hb dX6_run_105 ?_
            refine lv_topi (fun v105 e_v105 => ?_)
            have e_v105 : v105.toInt = p6_l4.toInt - 1 := sb_i e_v105 rfl li_1 (by omega) (by omega)
            refine lv_aload_n hx hb dX6_run_106 rfl (lv_at hl 1 rfl) ?_
            refine t_getk (ci := 6) (C := RX6) (T := TX6) (N := 7) hx hb hts iX6 hown hw rfl 6 (by decide) (hts _ tw_189) (fun _ h9 => h9) dX6_run_107 f_a0_X6_6 ?_
            refine lv_iload hx hb dX6_run_110 (lv_at hl 5 rfl) ?_
            refine lv_iconst (v := 1) hx hb dX6_run_112 (by decide) ?_
            refine lv_isub hx hb dX6_run_113 ?_
            refine lv_topi (fun v113 e_v113 => ?_)
            have e_v113 : v113.toInt = p6_l4.toInt - 1 := sb_i e_v113 rfl li_1 (by omega) (by omega)
            refine t_lald hx hb hw k_v99 rfl rfl (by omega) (show v113.toInt < 32 by omega) dX6_run_114 (fun v114 => ?_)
            refine lv_lconst (v := 0) hx hb dX6_run_115 (by decide) ?_
            obtain ⟨v115, e_v115⟩ : ∃ y : Int64, y = 0 := ⟨_, rfl⟩
            refine W.eq (g2 := F0 m 116 ls [.long v115, .long v114, .int v105, .ref v99]) (by rw [e_v115]) ?_
            have t_v115 : v115.toInt = 0 := by rw [e_v115]; decide
            refine W.lcmp hx hb dX6_run_116 ?_
            refine lv_topi (fun v116 e_v116 => ?_)
            have l_v116 := i32_lo v116
            have h_v116 := i32_hi v116
            have g_v116 := lgc e_v116
            have J125 : ∀ (H : Heap) (locs : List Loc) (ls : Array Slot) (w125 : va_W) (p125_s0 : Int64), tW (dC, dI) tys κ B A s w125 H locs → Sm [] [42] κ ws w125 → fld w125 a0 6 0 (.ref v13) → fld w125 a0 6 6 (.ref v99) → lv_has ls 7 [(0, .ref a0), (1, .int a1), (2, .int a2), (3, .ref a3), (4, .int p6_l4), (5, .int p6_l5), (6, .int v18)] → W p l e (headSpec (ws_u yX6_run cX6_run 7 (some .long)) ({ frames := 1, cells := 0, slots := 0, locals := 24 })).room s m ([.ref a0, .int a1, .int a2, .ref a3] : List Value).toArray below meth c H locs 0 0 QQ (F0 m 125 ls [.long p125_s0, .int v105, .ref v99]) := by
              intro H locs ls w125 p125_s0 hw hM f_a0_X6_0 f_a0_X6_6 hl
              refine t_last hx hb hw k_v99 rfl rfl (by omega) (show v105.toInt < 32 by omega) dX6_run_125 (fun w_1 H locs y hw u => ?_)
              have hM := hM.up2 u k_v99 (by decide)
              have f_a0_X6_0 := u.1 _ _ _ _ f_a0_X6_0
              have f_a0_X6_6 := u.1 _ _ _ _ f_a0_X6_6
              refine lv_goto (tgt := 162) hx hb dX6_run_126 (by decide) ?_
              exact J162 _ _ _ w_1 p6_l4 hw hM (by omega) (by omega) f_a0_X6_0 (lv_sub hl [0, 1, 2, 3, 4, 5, 6] rfl)
            refine lv_if_ne (tgt := 124) hx hb dX6_run_117 (by decide) (fun c_117 => ?_) (fun c_117 => ?_)
            · simp only [fa_lt, fa_le, fa_eq, li_0] at c_117
              refine lv_lconst (v := 0) hx hb dX6_run_124 (by decide) ?_
              obtain ⟨v124, e_v124⟩ : ∃ y : Int64, y = 0 := ⟨_, rfl⟩
              refine W.eq (g2 := F0 m 125 ls [.long v124, .int v105, .ref v99]) (by rw [e_v124]) ?_
              have t_v124 : v124.toInt = 0 := by rw [e_v124]; decide
              exact J125 _ _ _ w6 v124 hw hM f_a0_X6_0 f_a0_X6_6 (lv_sub hl [1, 2, 3, 4, 5, 6, 0] rfl)
            · simp only [fa_lt, fa_le, fa_eq, li_0] at c_117
              refine lv_lconst (v := 1) hx hb dX6_run_120 (by decide) ?_
              obtain ⟨v120, e_v120⟩ : ∃ y : Int64, y = 1 := ⟨_, rfl⟩
              refine W.eq (g2 := F0 m 121 ls [.long v120, .int v105, .ref v99]) (by rw [e_v120]) ?_
              have t_v120 : v120.toInt = 1 := by rw [e_v120]; decide
              refine lv_goto (tgt := 125) hx hb dX6_run_121 (by decide) ?_
              exact J125 _ _ _ w6 v120 hw hM f_a0_X6_0 f_a0_X6_6 (lv_sub hl [1, 2, 3, 4, 5, 6, 0] rfl)
          · simp only [fa_lt, fa_le, fa_eq, li_m24] at c_80
            refine lv_iload hx hb dX6_run_83 (lv_at hl 5 rfl) ?_
            refine lv_iconst (v := 2) hx hb dX6_run_85 (by decide) ?_
            refine lv_icmp_ge (tgt := 91) hx hb dX6_run_86 (by decide) (fun c_86 => ?_) (fun c_86 => ?_)
            · simp only [fa_lt, fa_le, fa_eq, li_2] at c_86
              refine lv_iload hx hb dX6_run_91 (lv_at hl 0 rfl) ?_
              refine lv_bipush (v := (-24)) hx hb dX6_run_93 (by decide) ?_
              refine lv_icmp_ne (tgt := 129) hx hb dX6_run_95 (by decide) (fun c_95 => ?_) (fun c_95 => ?_)
              · simp only [fa_lt, fa_le, fa_eq, li_m24] at c_95
                obtain ⟨v129, e_v129⟩ : ∃ y : Int32, y = p6_l4 + (-1) := ⟨_, rfl⟩
                refine lv_iinc (v := v129) (lv' := [(4, .int v129), (6, .int v18), (0, .ref a0), (1, .int a1), (2, .int a2), (3, .ref a3), (5, .int p6_l5)]) hx hb dX6_run_129 hl (k := 5) rfl e_v129.symm (by decide) rfl (fun ls hl => ?_)
                have e_v129 : v129.toInt = p6_l4.toInt + (-1) := ad_i e_v129 rfl li_m1 (by omega) (by omega)
                refine lv_aload_n hx hb dX6_run_132 rfl (lv_at hl 2 rfl) ?_
                refine t_getr (k1 := 42) (ci := 6) (C := RX6) (T := TX6) (N := 7) hx hb hts iX6 hown hw k_a0 rfl rfl rfl 6 (by decide) (hts _ tw_189) (fun _ h9 => h9) dX6_run_133 rfl (fun v133 k_v133 f_a0_X6_6 => ?_)
                refine lv_iload hx hb dX6_run_136 (lv_at hl 0 rfl) ?_
                refine lv_iconst (v := 1) hx hb dX6_run_138 (by decide) ?_
                refine lv_isub hx hb dX6_run_139 ?_
                refine lv_topi (fun v139 e_v139 => ?_)
                have e_v139 : v139.toInt = v129.toInt - 1 := sb_i e_v139 rfl li_1 (by omega) (by omega)
                refine lv_iload hx hb dX6_run_140 (lv_at hl 1 rfl) ?_
                refine lv_aload_n hx hb dX6_run_142 rfl (lv_at hl 2 rfl) ?_
                refine t_getk (ci := 6) (C := RX6) (T := TX6) (N := 7) hx hb hts iX6 hown hw rfl 6 (by decide) (hts _ tw_189) (fun _ h9 => h9) dX6_run_143 f_a0_X6_6 ?_
                refine lv_iload hx hb dX6_run_146 (lv_at hl 0 rfl) ?_
                refine lv_iconst (v := 1) hx hb dX6_run_148 (by decide) ?_
                refine lv_isub hx hb dX6_run_149 ?_
                refine lv_topi (fun v149 e_v149 => ?_)
                have e_v149 : v149.toInt = v129.toInt - 1 := sb_i e_v149 rfl li_1 (by omega) (by omega)
                refine t_lald hx hb hw k_v133 rfl rfl (by omega) (show v149.toInt < 32 by omega) dX6_run_150 (fun v150 => ?_)
                refine lv_aload_n hx hb dX6_run_151 rfl (lv_at hl 2 rfl) ?_
                refine t_getk (ci := 6) (C := RX6) (T := TX6) (N := 7) hx hb hts iX6 hown hw rfl 6 (by decide) (hts _ tw_189) (fun _ h9 => h9) dX6_run_152 f_a0_X6_6 ?_
                refine lv_iload hx hb dX6_run_155 (lv_at hl 0 rfl) ?_
                refine t_lald hx hb hw k_v133 rfl rfl (by omega) (show v129.toInt < 32 by omega) dX6_run_157 (fun v157 => ?_)
                refine t_calll (va_runS (As := [.int v18, .long v150, .long v157]) (rest := [.int v139, .ref v133]) ⟨hx, hb, hml, hown, hts⟩ (t_X6_reckon l dC dI tys κ B w6 hw.2.2.2.2 v18 (by omega) (by omega) v150 v157 H.size) (va_cwS 3 hts (gUS tw_793 tw_794 tw_6 tw_795) rfl rfl rfl (by decide +kernel) ⟨(Nat.le_of_ble_eq_true rfl), (Nat.le_of_ble_eq_true rfl)⟩) ⟨cPre.blind, cPre.use hw.2.1 hw.1 hw.2.2.1 hE⟩ rfl rfl hl.1 rfl (lv_room (Nat.le_of_ble_eq_true rfl)) dX6_run_158 ⟨(Nat.le_of_ble_eq_true rfl), (Nat.le_of_ble_eq_true rfl)⟩) hw hA (fun _ _ h => h.1) (fun v158 w_2 H locs hp hw => ?_)
                obtain ⟨_, hm⟩ := hp
                have hM := hM.trans hm (by decide) (by decide)
                have f_a0_X6_0 := hm.1 _ _ _ _ f_a0_X6_0 (by decide)
                have f_a0_X6_6 := hm.1 _ _ _ _ f_a0_X6_6 (by decide)
                refine t_last hx hb hw k_v133 rfl rfl (by omega) (show v139.toInt < 32 by omega) dX6_run_161 (fun w_3 H locs y hw u => ?_)
                have hM := hM.up2 u k_v133 (by decide)
                have f_a0_X6_0 := u.1 _ _ _ _ f_a0_X6_0
                have f_a0_X6_6 := u.1 _ _ _ _ f_a0_X6_6
                exact J162 _ _ _ w_3 v129 hw hM (by omega) (by omega) f_a0_X6_0 (lv_sub hl [2, 3, 4, 5, 0, 6, 1] rfl)
              · simp only [fa_lt, fa_le, fa_eq, li_m24] at c_95
                refine lv_aload_n hx hb dX6_run_98 rfl (lv_at hl 1 rfl) ?_
                refine t_getr (k1 := 42) (ci := 6) (C := RX6) (T := TX6) (N := 7) hx hb hts iX6 hown hw k_a0 rfl rfl rfl 6 (by decide) (hts _ tw_189) (fun _ h9 => h9) dX6_run_99 rfl (fun v99 k_v99 f_a0_X6_6 => ?_)
                refine lv_iload hx hb dX6_run_102 (lv_at hl 5 rfl) ?_
                refine lv_iconst (v := 1) hx hb dX6_run_104 (by decide) ?_
                refine lv_isub hx hb dX6_run_105 ?_
                refine lv_topi (fun v105 e_v105 => ?_)
                have e_v105 : v105.toInt = p6_l4.toInt - 1 := sb_i e_v105 rfl li_1 (by omega) (by omega)
                refine lv_aload_n hx hb dX6_run_106 rfl (lv_at hl 1 rfl) ?_
                refine t_getk (ci := 6) (C := RX6) (T := TX6) (N := 7) hx hb hts iX6 hown hw rfl 6 (by decide) (hts _ tw_189) (fun _ h9 => h9) dX6_run_107 f_a0_X6_6 ?_
                refine lv_iload hx hb dX6_run_110 (lv_at hl 5 rfl) ?_
                refine lv_iconst (v := 1) hx hb dX6_run_112 (by decide) ?_
                refine lv_isub hx hb dX6_run_113 ?_
                refine lv_topi (fun v113 e_v113 => ?_)
                have e_v113 : v113.toInt = p6_l4.toInt - 1 := sb_i e_v113 rfl li_1 (by omega) (by omega)
                refine t_lald hx hb hw k_v99 rfl rfl (by omega) (show v113.toInt < 32 by omega) dX6_run_114 (fun v114 => ?_)
                refine lv_lconst (v := 0) hx hb dX6_run_115 (by decide) ?_
                obtain ⟨v115, e_v115⟩ : ∃ y : Int64, y = 0 := ⟨_, rfl⟩
                refine W.eq (g2 := F0 m 116 ls [.long v115, .long v114, .int v105, .ref v99]) (by rw [e_v115]) ?_
                have t_v115 : v115.toInt = 0 := by rw [e_v115]; decide
                refine W.lcmp hx hb dX6_run_116 ?_
                refine lv_topi (fun v116 e_v116 => ?_)
                have l_v116 := i32_lo v116
                have h_v116 := i32_hi v116
                have g_v116 := lgc e_v116
                have J125 : ∀ (H : Heap) (locs : List Loc) (ls : Array Slot) (w125 : va_W) (p125_s0 : Int64), tW (dC, dI) tys κ B A s w125 H locs → Sm [] [42] κ ws w125 → fld w125 a0 6 0 (.ref v13) → fld w125 a0 6 6 (.ref v99) → lv_has ls 7 [(0, .ref a0), (1, .int a1), (2, .int a2), (3, .ref a3), (4, .int p6_l4), (5, .int p6_l5), (6, .int v18)] → W p l e (headSpec (ws_u yX6_run cX6_run 7 (some .long)) ({ frames := 1, cells := 0, slots := 0, locals := 24 })).room s m ([.ref a0, .int a1, .int a2, .ref a3] : List Value).toArray below meth c H locs 0 0 QQ (F0 m 125 ls [.long p125_s0, .int v105, .ref v99]) := by
                  intro H locs ls w125 p125_s0 hw hM f_a0_X6_0 f_a0_X6_6 hl
                  refine t_last hx hb hw k_v99 rfl rfl (by omega) (show v105.toInt < 32 by omega) dX6_run_125 (fun w_4 H locs y hw u => ?_)
                  have hM := hM.up2 u k_v99 (by decide)
                  have f_a0_X6_0 := u.1 _ _ _ _ f_a0_X6_0
                  have f_a0_X6_6 := u.1 _ _ _ _ f_a0_X6_6
                  refine lv_goto (tgt := 162) hx hb dX6_run_126 (by decide) ?_
                  exact J162 _ _ _ w_4 p6_l4 hw hM (by omega) (by omega) f_a0_X6_0 (lv_sub hl [0, 1, 2, 3, 4, 5, 6] rfl)
                refine lv_if_ne (tgt := 124) hx hb dX6_run_117 (by decide) (fun c_117 => ?_) (fun c_117 => ?_)
                · simp only [fa_lt, fa_le, fa_eq, li_0] at c_117
                  refine lv_lconst (v := 0) hx hb dX6_run_124 (by decide) ?_
                  obtain ⟨v124, e_v124⟩ : ∃ y : Int64, y = 0 := ⟨_, rfl⟩
                  refine W.eq (g2 := F0 m 125 ls [.long v124, .int v105, .ref v99]) (by rw [e_v124]) ?_
                  have t_v124 : v124.toInt = 0 := by rw [e_v124]; decide
                  exact J125 _ _ _ w6 v124 hw hM f_a0_X6_0 f_a0_X6_6 (lv_sub hl [1, 2, 3, 4, 5, 6, 0] rfl)
                · simp only [fa_lt, fa_le, fa_eq, li_0] at c_117
                  refine lv_lconst (v := 1) hx hb dX6_run_120 (by decide) ?_
                  obtain ⟨v120, e_v120⟩ : ∃ y : Int64, y = 1 := ⟨_, rfl⟩
                  refine W.eq (g2 := F0 m 121 ls [.long v120, .int v105, .ref v99]) (by rw [e_v120]) ?_
                  have t_v120 : v120.toInt = 1 := by rw [e_v120]; decide
                  refine lv_goto (tgt := 125) hx hb dX6_run_121 (by decide) ?_
                  exact J125 _ _ _ w6 v120 hw hM f_a0_X6_0 f_a0_X6_6 (lv_sub hl [1, 2, 3, 4, 5, 6, 0] rfl)
            · simp only [fa_lt, fa_le, fa_eq, li_2] at c_86
              refine lv_lconst (v := 0) hx hb dX6_run_89 (by decide) ?_
              obtain ⟨v89, e_v89⟩ : ∃ y : Int64, y = 0 := ⟨_, rfl⟩
              refine W.eq (g2 := F0 m 90 ls [.long v89]) (by rw [e_v89]) ?_
              have t_v89 : v89.toInt = 0 := by rw [e_v89]; decide
              rw [hQ]
              refine W.widen (k := 0) (n := 0) (Nat.le_refl _) (Nat.le_refl _) ?_
              exact W.lret (v := v89) hx hb hr (fun t ht hW => ⟨⟨v89, w6, rfl, ⟨hw.2.2.2.2, hM⟩, by rw [ht]; exact hw.2.1, va_K.moved hW.alike hw.1, hw.2.2.1⟩, hw.2.2.2.1.F ht⟩) hw.2.2.2.1.2.2 dX6_run_90
      · simp only [fa_lt, fa_le, fa_eq, li_m12] at c_25
        refine lv_iload hx hb dX6_run_28 (lv_at hl 5 rfl) ?_
        refine lv_aload_n hx hb dX6_run_30 rfl (lv_at hl 1 rfl) ?_
        refine t_getr (k1 := 42) (ci := 6) (C := RX6) (T := TX6) (N := 7) hx hb hts iX6 hown hw k_a0 rfl rfl rfl 6 (by decide) (hts _ tw_189) (fun _ h9 => h9) dX6_run_31 rfl (fun v31 k_v31 f_a0_X6_6 => ?_)
        refine t_alenL (v := 32) hx hb hw k_v31 rfl (by decide) dX6_run_34 ?_
        refine lv_icmp_lt (tgt := 40) hx hb dX6_run_35 (by decide) (fun c_35 => ?_) (fun c_35 => ?_)
        · simp only [fa_lt, fa_le, fa_eq, li_32] at c_35
          refine lv_aload_n hx hb dX6_run_40 rfl (lv_at hl 1 rfl) ?_
          refine t_getk (ci := 6) (C := RX6) (T := TX6) (N := 7) hx hb hts iX6 hown hw rfl 6 (by decide) (hts _ tw_189) (fun _ h9 => h9) dX6_run_41 f_a0_X6_6 ?_
          refine lv_iload hx hb dX6_run_44 (lv_at hl 5 rfl) ?_
          refine lv_iload hx hb dX6_run_46 (lv_at hl 0 rfl) ?_
          have J63 : ∀ (H : Heap) (locs : List Loc) (ls : Array Slot) (w63 : va_W) (p63_s0 : Int64), tW (dC, dI) tys κ B A s w63 H locs → Sm [] [42] κ ws w63 → fld w63 a0 6 0 (.ref v13) → fld w63 a0 6 6 (.ref v31) → lv_has ls 7 [(0, .ref a0), (1, .int a1), (2, .int a2), (3, .ref a3), (4, .int p6_l4), (5, .int p6_l5), (6, .int v18)] → W p l e (headSpec (ws_u yX6_run cX6_run 7 (some .long)) ({ frames := 1, cells := 0, slots := 0, locals := 24 })).room s m ([.ref a0, .int a1, .int a2, .ref a3] : List Value).toArray below meth c H locs 0 0 QQ (F0 m 63 ls [.long p63_s0, .int p6_l4, .ref v31]) := by
            intro H locs ls w63 p63_s0 hw hM f_a0_X6_0 f_a0_X6_6 hl
            refine t_last hx hb hw k_v31 rfl rfl (by omega) (show p6_l4.toInt < 32 by omega) dX6_run_63 (fun w_5 H locs y hw u => ?_)
            have hM := hM.up2 u k_v31 (by decide)
            have f_a0_X6_0 := u.1 _ _ _ _ f_a0_X6_0
            have f_a0_X6_6 := u.1 _ _ _ _ f_a0_X6_6
            obtain ⟨v64, e_v64⟩ : ∃ y : Int32, y = p6_l4 + 1 := ⟨_, rfl⟩
            refine lv_iinc (v := v64) (lv' := [(4, .int v64), (0, .ref a0), (1, .int a1), (2, .int a2), (3, .ref a3), (5, .int p6_l5), (6, .int v18)]) hx hb dX6_run_64 hl (k := 4) rfl e_v64.symm (by decide) rfl (fun ls hl => ?_)
            have e_v64 : v64.toInt = p6_l4.toInt + 1 := ad_i e_v64 rfl li_1 (by omega) (by omega)
            refine lv_goto (tgt := 162) hx hb dX6_run_67 (by decide) ?_
            exact J162 _ _ _ w_5 v64 hw hM (by omega) (by omega) f_a0_X6_0 (lv_sub hl [1, 2, 3, 4, 0, 5, 6] rfl)
          refine lv_if_lt (tgt := 57) hx hb dX6_run_48 (by decide) (fun c_48 => ?_) (fun c_48 => ?_)
          · simp only [fa_lt, fa_le, fa_eq, li_0] at c_48
            refine lv_aload_n hx hb dX6_run_57 rfl (lv_at hl 4 rfl) ?_
            refine lv_iconst (v := (-1)) hx hb dX6_run_58 (by decide) ?_
            refine lv_iload hx hb dX6_run_59 (lv_at hl 0 rfl) ?_
            refine lv_isub hx hb dX6_run_61 ?_
            refine lv_topi (fun v61 e_v61 => ?_)
            have e_v61 : v61.toInt = (-1) - v18.toInt := sb_i e_v61 li_m1 rfl (by omega) (by omega)
            refine t_lald hx hb hw k_a3 rfl rfl (by omega) (show v61.toInt < 11 by omega) dX6_run_62 (fun v62 => ?_)
            exact J63 _ _ _ w6 v62 hw hM f_a0_X6_0 f_a0_X6_6 (lv_sub hl [1, 2, 3, 4, 5, 6, 0] rfl)
          · simp only [fa_lt, fa_le, fa_eq, li_0] at c_48
            refine lv_iload hx hb dX6_run_51 (lv_at hl 0 rfl) ?_
            refine lv_i2l hx hb dX6_run_53 rfl ?_
            refine lv_topl (fun v53 e_v53 => ?_)
            have t_v53 : v53.toInt = v18.toInt := by rw [e_v53, Int32.toInt_toInt64]
            refine lv_goto (tgt := 63) hx hb dX6_run_54 (by decide) ?_
            exact J63 _ _ _ w6 v53 hw hM f_a0_X6_0 f_a0_X6_6 (lv_sub hl [1, 2, 3, 4, 5, 6, 0] rfl)
        · simp only [fa_lt, fa_le, fa_eq, li_32] at c_35
          refine lv_lconst (v := 0) hx hb dX6_run_38 (by decide) ?_
          obtain ⟨v38, e_v38⟩ : ∃ y : Int64, y = 0 := ⟨_, rfl⟩
          refine W.eq (g2 := F0 m 39 ls [.long v38]) (by rw [e_v38]) ?_
          have t_v38 : v38.toInt = 0 := by rw [e_v38]; decide
          rw [hQ]
          refine W.widen (k := 0) (n := 0) (Nat.le_refl _) (Nat.le_refl _) ?_
          exact W.lret (v := v38) hx hb hr (fun t ht hW => ⟨⟨v38, w6, rfl, ⟨hw.2.2.2.2, hM⟩, by rw [ht]; exact hw.2.1, va_K.moved hW.alike hw.1, hw.2.2.1⟩, hw.2.2.2.1.F ht⟩) hw.2.2.2.1.2.2 dX6_run_39
  exact J6 _ _ _ _ ⟨ws, 0, a1, hw, hM, (by decide), (by decide), (by omega), (by omega), (lv_sub hl [2, 3, 4, 5, 1, 0] rfl), rfl⟩
set_option maxHeartbeats 4000000 in
set_option maxRecDepth 100000 in
theorem t_X6_want (l : Launch) (dC : Nat → ClassId) (dI : Nat → Nat → Nat) (tys : List (ClassId × FieldType)) (κ : tK) (B : Nat) (ws : va_W) (hT : Ty κ tys B ws) (a0 : Nat) (k_a0 : κ a0 = some 6) (a1 : Nat) (k_a1 : κ a1 = some 36) (sz : Nat) : Met l yX6_want (ws_u yX6_want cX6_want 3 (some .long)) ({ frames := 2, cells := 0, slots := 0, locals := 50 }) (va_Pc [.ref a0, .ref a1] (cPre (dC, dI) tys ws sz)) (va_Ql (fun (r : Int64) (w : va_W) => Ty κ tys B w ∧ Sm [] [42] κ ws w) (fun w t => cPost (dC, dI) tys w (va_A ws sz) t) (va_A ws sz)) 0 0 (va_A ws sz) := by
  refine Met.ofW (cc := cX6_want) (maxL := 3) (ret := (some .long)) (by decide) rfl ?_
  intro p e s m args below meth c s₁ B0 hml hv
  obtain ⟨rfl, hsz, hP, hK, hD0, hE⟩ := hv
  have hx := B0.exec
  have hb := B0.bytes
  have hr := B0.returns
  have hts0 := atoms_spec (ws := ws_u yX6_want cX6_want 3 (some .long)) B0.pre
  have hts : ∀ w ∈ gT, w.before _ s = true := fun w h => hts0 w (List.mem_cons_of_mem _ h)
  have hown : s.vm.findClass RX6 = some m.cls := findClass_of_methodNamed B0.named
  have hlocks := B0.notSynchronized
  subst hsz
  have hD := hD0.self (sz := s.heap.size)
  generalize hAe : va_A ws s.heap.size = A at hD ⊢
  have hA : ∀ q : Nat, s.heap.size ≤ q → A q := fun q h => by rw [← hAe]; exact Or.inr h
  have hw : tW (dC, dI) tys κ B A s ws s.heap [] := ⟨hK, hP, hD, va_S.rf, hT⟩
  have hM : Sm [] [42] κ ws ws := Sm.rf
  clear hP hK hD hD0 hts0
  have hl := lv_entry ([.ref a0, .ref a1]) (n := 3) (Nat.le_of_ble_eq_true rfl)
  rw [lg_entry_eq]
  generalize (lg_sl ([.ref a0, .ref a1]) ++ List.replicate (3 - (lg_sl ([.ref a0, .ref a1])).length) Slot.unset).toArray = ls at hl ⊢
  have hl : lv_has ls 3 [(0, .ref a0), (1, .ref a1)] := hl
  refine t_start (fun QQ hQ => ?_)
  refine lv_iconst (v := 0) hx hb dX6_want_0 (by decide) ?_
  refine lv_istore_n (lv' := [(2, .int 0), (0, .ref a0), (1, .ref a1)]) hx hb dX6_want_1 rfl hl (by decide) rfl (fun ls hl => ?_)
  have J2 : ∀ (n : Nat) (H : Heap) (locs : List Loc) (ls : Array Slot), (∃ (w2 : va_W) (p2_l2 : Int32), tW (dC, dI) tys κ B A s w2 H locs ∧ Sm [] [42] κ ws w2 ∧ 0 ≤ p2_l2.toInt ∧ p2_l2.toInt ≤ 12 ∧ lv_has ls 3 [(0, .ref a0), (1, .ref a1), (2, .int p2_l2)] ∧ (12 - p2_l2.toInt).toNat = n) → W p l e (headSpec (ws_u yX6_want cX6_want 3 (some .long)) ({ frames := 2, cells := 0, slots := 0, locals := 50 })).room s m ([.ref a0, .ref a1] : List Value).toArray below meth c H locs 0 0 QQ (F0 m 2 ls []) := by
    refine loopT _ ?_
    intro n_2 H locs ls hI ih_2
    obtain ⟨w2, p2_l2, hw, hM, l_p2_l2, h_p2_l2, hl, hn_2⟩ := hI
    refine lv_iload_n hx hb dX6_want_2 rfl (lv_at hl 2 rfl) ?_
    refine lv_aload_n hx hb dX6_want_3 rfl (lv_at hl 0 rfl) ?_
    refine t_geti (ci := 6) (C := RX6) (T := TX6) (N := 7) hx hb hts iX6 hown hw k_a0 rfl rfl rfl 5 (by decide) (hts _ tw_188) (fun _ h9 => h9) dX6_want_4 rfl (fun v4 l_v4 h_v4 f_a0_X6_5 => ?_)
    have l_v4 : 0 ≤ v4.toInt := l_v4
    have h_v4 : v4.toInt ≤ 12 := h_v4
    refine lv_icmp_ge (tgt := 71) hx hb dX6_want_7 (by decide) (fun c_7 => ?_) (fun c_7 => ?_)
    · simp only [fa_lt, fa_le, fa_eq] at c_7
      refine lv_lconst (v := 0) hx hb dX6_want_71 (by decide) ?_
      obtain ⟨v71, e_v71⟩ : ∃ y : Int64, y = 0 := ⟨_, rfl⟩
      refine W.eq (g2 := F0 m 72 ls [.long v71]) (by rw [e_v71]) ?_
      have t_v71 : v71.toInt = 0 := by rw [e_v71]; decide
      rw [hQ]
      refine W.widen (k := 0) (n := 0) (Nat.le_refl _) (Nat.le_refl _) ?_
      exact W.lret (v := v71) hx hb hr (fun t ht hW => ⟨⟨v71, w2, rfl, ⟨hw.2.2.2.2, hM⟩, by rw [ht]; exact hw.2.1, va_K.moved hW.alike hw.1, hw.2.2.1⟩, hw.2.2.2.1.F ht⟩) hw.2.2.2.1.2.2 dX6_want_72
    · simp only [fa_lt, fa_le, fa_eq] at c_7
      refine lv_aload_n hx hb dX6_want_10 rfl (lv_at hl 0 rfl) ?_
      refine t_getr (k1 := 40) (ci := 6) (C := RX6) (T := TX6) (N := 7) hx hb hts iX6 hown hw k_a0 rfl rfl rfl 3 (by decide) (hts _ tw_186) (fun _ h9 => h9) dX6_want_11 rfl (fun v11 k_v11 f_a0_X6_3 => ?_)
      refine lv_iload_n hx hb dX6_want_14 rfl (lv_at hl 2 rfl) ?_
      refine t_iald hx hb hw k_v11 rfl rfl (by omega) (show p2_l2.toInt < 12 by omega) dX6_want_15 (fun v15 r_v15 s_v15 q_v15 => ?_)
      have l_v15 : 0 ≤ v15.toInt := r_v15
      have h_v15 : v15.toInt ≤ 400 := s_v15
      refine lv_aload_n hx hb dX6_want_16 rfl (lv_at hl 0 rfl) ?_
      refine t_getr (k1 := 41) (ci := 6) (C := RX6) (T := TX6) (N := 7) hx hb hts iX6 hown hw k_a0 rfl rfl rfl 4 (by decide) (hts _ tw_187) (fun _ h9 => h9) dX6_want_17 rfl (fun v17 k_v17 f_a0_X6_4 => ?_)
      refine lv_iload_n hx hb dX6_want_20 rfl (lv_at hl 2 rfl) ?_
      refine t_iald hx hb hw k_v17 rfl rfl (by omega) (show p2_l2.toInt < 12 by omega) dX6_want_21 (fun v21 r_v21 s_v21 q_v21 => ?_)
      have l_v21 : 0 ≤ v21.toInt := r_v21
      have h_v21 : v21.toInt ≤ 400 := s_v21
      have J47 : ∀ (H : Heap) (locs : List Loc) (ls : Array Slot) (w47 : va_W), tW (dC, dI) tys κ B A s w47 H locs → Sm [] [42] κ ws w47 → fld w47 a0 6 3 (.ref v11) → fld w47 a0 6 4 (.ref v17) → fld w47 a0 6 5 (.int v4) → lv_has ls 3 [(0, .ref a0), (1, .ref a1), (2, .int p2_l2)] → W p l e (headSpec (ws_u yX6_want cX6_want 3 (some .long)) ({ frames := 2, cells := 0, slots := 0, locals := 50 })).room s m ([.ref a0, .ref a1] : List Value).toArray below meth c H locs 0 0 QQ (F0 m 47 ls []) := by
        intro H locs ls w47 hw hM f_a0_X6_3 f_a0_X6_4 f_a0_X6_5 hl
        refine lv_aload_n hx hb dX6_want_47 rfl (lv_at hl 0 rfl) ?_
        refine lv_aload_n hx hb dX6_want_48 rfl (lv_at hl 0 rfl) ?_
        refine t_getr (k1 := 39) (ci := 6) (C := RX6) (T := TX6) (N := 7) hx hb hts iX6 hown hw k_a0 rfl rfl rfl 2 (by decide) (hts _ tw_185) (fun _ h9 => h9) dX6_want_49 rfl (fun v49 k_v49 f_a0_X6_2 => ?_)
        refine lv_iload_n hx hb dX6_want_52 rfl (lv_at hl 2 rfl) ?_
        refine t_iald hx hb hw k_v49 rfl rfl (by omega) (show p2_l2.toInt < 12 by omega) dX6_want_53 (fun v53 r_v53 s_v53 q_v53 => ?_)
        have l_v53 : 0 ≤ v53.toInt := r_v53
        have h_v53 : v53.toInt ≤ 400 := s_v53
        refine lv_aload_n hx hb dX6_want_54 rfl (lv_at hl 0 rfl) ?_
        refine t_getk (ci := 6) (C := RX6) (T := TX6) (N := 7) hx hb hts iX6 hown hw rfl 3 (by decide) (hts _ tw_186) (fun _ h9 => h9) dX6_want_55 f_a0_X6_3 ?_
        refine lv_iload_n hx hb dX6_want_58 rfl (lv_at hl 2 rfl) ?_
        refine t_iald hx hb hw k_v11 rfl rfl (by omega) (show p2_l2.toInt < 12 by omega) dX6_want_59 (fun v59 r_v59 s_v59 q_v59 => ?_)
        have l_v59 : 0 ≤ v59.toInt := r_v59
        have h_v59 : v59.toInt ≤ 400 := s_v59
        refine lv_aload_n hx hb dX6_want_60 rfl (lv_at hl 1 rfl) ?_
        refine t_calll (va_runV (As := [.int v53, .int v59, .ref a1]) (rest := []) ⟨hx, hb, hml, hown, hts⟩ (t_X6_run l dC dI tys κ B w47 hw.2.2.2.2 a0 k_a0 v53 (by omega) (by omega) v59 (by omega) (by omega) a1 k_a1 H.size) (cwV 3 hts (gUV tw_789 tw_791 ts_1_5 tw_6 tw_792) rfl rfl rfl (by decide +kernel) ⟨(Nat.le_of_ble_eq_true rfl), (Nat.le_of_ble_eq_true rfl)⟩) ⟨cPre.blind, t_recv hw (ci := 6) k_a0 rfl rfl, cPre.use hw.2.1 hw.1 hw.2.2.1 hE⟩ rfl rfl hl.1 rfl (lv_room (Nat.le_of_ble_eq_true rfl)) dX6_want_61 ⟨(Nat.le_of_ble_eq_true rfl), (Nat.le_of_ble_eq_true rfl)⟩) hw hA (fun _ _ h => h.1) (fun v61 w_1 H locs hp hw => ?_)
        obtain ⟨_, hm⟩ := hp
        have hM := hM.trans hm (by decide) (by decide)
        have f_a0_X6_3 := hm.1 _ _ _ _ f_a0_X6_3 (by decide)
        have f_a0_X6_4 := hm.1 _ _ _ _ f_a0_X6_4 (by decide)
        have f_a0_X6_5 := hm.1 _ _ _ _ f_a0_X6_5 (by decide)
        have f_a0_X6_2 := hm.1 _ _ _ _ f_a0_X6_2 (by decide)
        rw [hQ]
        refine W.widen (k := 0) (n := 0) (Nat.le_refl _) (Nat.le_refl _) ?_
        exact W.lret (v := v61) hx hb hr (fun t ht hW => ⟨⟨v61, w_1, rfl, ⟨hw.2.2.2.2, hM⟩, by rw [ht]; exact hw.2.1, va_K.moved hW.alike hw.1, hw.2.2.1⟩, hw.2.2.2.1.F ht⟩) hw.2.2.2.1.2.2 dX6_want_64
      refine lv_icmp_eq (tgt := 47) hx hb dX6_want_22 (by decide) (fun c_22 => ?_) (fun c_22 => ?_)
      · simp only [fa_lt, fa_le, fa_eq] at c_22
        exact J47 _ _ _ w2 hw hM f_a0_X6_3 f_a0_X6_4 f_a0_X6_5 (lv_sub hl [0, 1, 2] rfl)
      · simp only [fa_lt, fa_le, fa_eq] at c_22
        refine lv_aload_n hx hb dX6_want_25 rfl (lv_at hl 0 rfl) ?_
        refine lv_aload_n hx hb dX6_want_26 rfl (lv_at hl 0 rfl) ?_
        refine t_getk (ci := 6) (C := RX6) (T := TX6) (N := 7) hx hb hts iX6 hown hw rfl 3 (by decide) (hts _ tw_186) (fun _ h9 => h9) dX6_want_27 f_a0_X6_3 ?_
        refine lv_iload_n hx hb dX6_want_30 rfl (lv_at hl 2 rfl) ?_
        refine t_iald hx hb hw k_v11 rfl rfl (by omega) (show p2_l2.toInt < 12 by omega) dX6_want_31 (fun v31 r_v31 s_v31 q_v31 => ?_)
        have l_v31 : 0 ≤ v31.toInt := r_v31
        have h_v31 : v31.toInt ≤ 400 := s_v31
        refine lv_aload_n hx hb dX6_want_32 rfl (lv_at hl 0 rfl) ?_
        refine t_getk (ci := 6) (C := RX6) (T := TX6) (N := 7) hx hb hts iX6 hown hw rfl 4 (by decide) (hts _ tw_187) (fun _ h9 => h9) dX6_want_33 f_a0_X6_4 ?_
        refine lv_iload_n hx hb dX6_want_36 rfl (lv_at hl 2 rfl) ?_
        refine t_iald hx hb hw k_v17 rfl rfl (by omega) (show p2_l2.toInt < 12 by omega) dX6_want_37 (fun v37 r_v37 s_v37 q_v37 => ?_)
        have l_v37 : 0 ≤ v37.toInt := r_v37
        have h_v37 : v37.toInt ≤ 400 := s_v37
        refine lv_aload_n hx hb dX6_want_38 rfl (lv_at hl 1 rfl) ?_
        refine t_calll (va_runV (As := [.int v31, .int v37, .ref a1]) (rest := []) ⟨hx, hb, hml, hown, hts⟩ (t_X6_run l dC dI tys κ B w2 hw.2.2.2.2 a0 k_a0 v31 (by omega) (by omega) v37 (by omega) (by omega) a1 k_a1 H.size) (cwV 3 hts (gUV tw_789 tw_791 ts_1_5 tw_6 tw_792) rfl rfl rfl (by decide +kernel) ⟨(Nat.le_of_ble_eq_true rfl), (Nat.le_of_ble_eq_true rfl)⟩) ⟨cPre.blind, t_recv hw (ci := 6) k_a0 rfl rfl, cPre.use hw.2.1 hw.1 hw.2.2.1 hE⟩ rfl rfl hl.1 rfl (lv_room (Nat.le_of_ble_eq_true rfl)) dX6_want_39 ⟨(Nat.le_of_ble_eq_true rfl), (Nat.le_of_ble_eq_true rfl)⟩) hw hA (fun _ _ h => h.1) (fun v39 w_2 H locs hp hw => ?_)
        obtain ⟨_, hm⟩ := hp
        have hM := hM.trans hm (by decide) (by decide)
        have f_a0_X6_5 := hm.1 _ _ _ _ f_a0_X6_5 (by decide)
        have f_a0_X6_3 := hm.1 _ _ _ _ f_a0_X6_3 (by decide)
        have f_a0_X6_4 := hm.1 _ _ _ _ f_a0_X6_4 (by decide)
        refine lv_lconst (v := 0) hx hb dX6_want_42 (by decide) ?_
        obtain ⟨v42, e_v42⟩ : ∃ y : Int64, y = 0 := ⟨_, rfl⟩
        refine W.eq (g2 := F0 m 43 ls [.long v42, .long v39]) (by rw [e_v42]) ?_
        have t_v42 : v42.toInt = 0 := by rw [e_v42]; decide
        refine W.lcmp hx hb dX6_want_43 ?_
        refine lv_topi (fun v43 e_v43 => ?_)
        have l_v43 := i32_lo v43
        have h_v43 := i32_hi v43
        have g_v43 := lgc e_v43
        refine lv_if_eq (tgt := 65) hx hb dX6_want_44 (by decide) (fun c_44 => ?_) (fun c_44 => ?_)
        · simp only [fa_lt, fa_le, fa_eq, li_0] at c_44
          obtain ⟨v65, e_v65⟩ : ∃ y : Int32, y = p2_l2 + 1 := ⟨_, rfl⟩
          refine lv_iinc (v := v65) (lv' := [(2, .int v65), (0, .ref a0), (1, .ref a1)]) hx hb dX6_want_65 hl (k := 2) rfl e_v65.symm (by decide) rfl (fun ls hl => ?_)
          have e_v65 : v65.toInt = p2_l2.toInt + 1 := ad_i e_v65 rfl li_1 (by omega) (by omega)
          refine lv_goto (tgt := 2) hx hb dX6_want_68 (by decide) ?_
          exact ih_2 _ _ _ _ (by omega) ⟨w_2, v65, hw, hM, (by omega), (by omega), (lv_sub hl [1, 2, 0] rfl), rfl⟩
        · simp only [fa_lt, fa_le, fa_eq, li_0] at c_44
          exact J47 _ _ _ w_2 hw hM f_a0_X6_3 f_a0_X6_4 f_a0_X6_5 (lv_sub hl [0, 1, 2] rfl)
  exact J2 _ _ _ _ ⟨ws, 0, hw, hM, (by decide), (by decide), (lv_sub hl [1, 2, 0] rfl), rfl⟩
