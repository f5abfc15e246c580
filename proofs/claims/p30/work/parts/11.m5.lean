theorem ts_1_4 : Cond.selects "BoyBishop$Poll" ⟨"BoyBishop$Poll", "setWordsOf", "(ILBoyBishop$Choir;LBoyBishop$Standing;)V"⟩ ⟨"BoyBishop$Poll", "setWordsOf", "(ILBoyBishop$Choir;LBoyBishop$Standing;)V"⟩ ∈ gT := gT_in (List.mem_append_left _ (List.mem_map.mpr ⟨(⟨"BoyBishop$Poll", "setWordsOf", "(ILBoyBishop$Choir;LBoyBishop$Standing;)V"⟩, 8), (List.mem_append_right _ (List.mem_append_left _ (List.mem_of_getElem? (i := 4) rfl))), rfl⟩)) rfl
theorem ts_1_6 : Cond.selects "BoyBishop$Poll" ⟨"BoyBishop$Poll", "mostWanted", "(II)I"⟩ ⟨"BoyBishop$Poll", "mostWanted", "(II)I"⟩ ∈ gT := gT_in (List.mem_append_left _ (List.mem_map.mpr ⟨(⟨"BoyBishop$Poll", "mostWanted", "(II)I"⟩, 8), (List.mem_append_right _ (List.mem_append_left _ (List.mem_of_getElem? (i := 6) rfl))), rfl⟩)) rfl
theorem ts_1_8 : Cond.selects "BoyBishop$Poll" ⟨"BoyBishop$Poll", "chosenWith", "(II)I"⟩ ⟨"BoyBishop$Poll", "chosenWith", "(II)I"⟩ ∈ gT := gT_in (List.mem_append_left _ (List.mem_map.mpr ⟨(⟨"BoyBishop$Poll", "chosenWith", "(II)I"⟩, 8), (List.mem_append_right _ (List.mem_append_left _ (List.mem_of_getElem? (i := 8) rfl))), rfl⟩)) rfl
theorem tw_102 : (Jvm.Cond.fieldLink "BoyBishop$Poll" (65 : Nat) "BoyBishop$Choir" "likes" "[I") ∈ gT := gT_in (List.mem_append_right _ (List.mem_append_left _ (List.mem_of_getElem? (i := 102) rfl))) rfl
theorem tw_21 : (Jvm.Cond.initialized "java/lang/Integer") ∈ gT := gT_in (List.mem_append_right _ (List.mem_append_left _ (List.mem_of_getElem? (i := 21) rfl))) rfl
theorem tw_221 : (Jvm.Cond.fieldLink "BoyBishop$Poll" (46 : Nat) "BoyBishop$Standing" "day" "I") ∈ gT := gT_in (List.mem_append_right _ (List.mem_append_left _ (List.mem_of_getElem? (i := 221) rfl))) rfl
theorem tw_232 : (Jvm.Cond.fieldLink "BoyBishop$Poll" (49 : Nat) "BoyBishop$Standing" "chest" "I") ∈ gT := gT_in (List.mem_append_right _ (List.mem_append_left _ (List.mem_of_getElem? (i := 232) rfl))) rfl
theorem tw_345 : (Jvm.Cond.fieldLink "BoyBishop$Poll" (43 : Nat) "BoyBishop$Poll" "unbroken" "I") ∈ gT := gT_in (List.mem_append_right _ (List.mem_append_right _ (List.mem_append_left _ (List.mem_of_getElem? (i := 105) rfl)))) rfl
theorem tw_352 : (Jvm.Cond.fieldLink "BoyBishop$Poll" (82 : Nat) "BoyBishop$Poll" "chosen" "I") ∈ gT := gT_in (List.mem_append_right _ (List.mem_append_right _ (List.mem_append_left _ (List.mem_of_getElem? (i := 112) rfl)))) rfl
theorem tw_768 : (Jvm.Cond.methodLink "BoyBishop$Poll" (37 : Nat) ({ cls := "BoyBishop$Standing", name := "brokenVoices", desc := "(I)I" } : Jvm.MethodName)) ∈ gT := gT_in (List.mem_append_right _ (List.mem_append_right _ (List.mem_append_right _ (List.mem_append_right _ (List.mem_append_left _ (List.mem_of_getElem? (i := 48) rfl)))))) rfl
theorem tw_769 : (Jvm.Cond.instanceMethod ({ cls := "BoyBishop$Standing", name := "brokenVoices", desc := "(I)I" } : Jvm.MethodName)) ∈ gT := gT_in (List.mem_append_right _ (List.mem_append_right _ (List.mem_append_right _ (List.mem_append_right _ (List.mem_append_left _ (List.mem_of_getElem? (i := 49) rfl)))))) rfl
theorem tw_77 : (Jvm.Cond.fieldLink "BoyBishop$Poll" (30 : Nat) "BoyBishop$Choir" "boys" "I") ∈ gT := gT_in (List.mem_append_right _ (List.mem_append_left _ (List.mem_of_getElem? (i := 77) rfl))) rfl
theorem tw_770 : (Jvm.Cond.selects "BoyBishop$Standing" ({ cls := "BoyBishop$Standing", name := "brokenVoices", desc := "(I)I" } : Jvm.MethodName) ({ cls := "BoyBishop$Standing", name := "brokenVoices", desc := "(I)I" } : Jvm.MethodName)) ∈ gT := gT_in (List.mem_append_right _ (List.mem_append_right _ (List.mem_append_right _ (List.mem_append_right _ (List.mem_append_left _ (List.mem_of_getElem? (i := 50) rfl)))))) rfl
theorem tw_771 : (Jvm.Cond.code ({ cls := "BoyBishop$Standing", name := "brokenVoices", desc := "(I)I" } : Jvm.MethodName) prog_10_method_14_code (4 : Nat) (Option.some Jvm.ClassFile.FieldType.int)) ∈ gT := gT_in (List.mem_append_right _ (List.mem_append_right _ (List.mem_append_right _ (List.mem_append_right _ (List.mem_append_left _ (List.mem_of_getElem? (i := 51) rfl)))))) rfl
theorem tw_772 : (Jvm.Cond.methodLink "BoyBishop$Poll" (52 : Nat) ({ cls := "java/lang/Integer", name := "bitCount", desc := "(I)I" } : Jvm.MethodName)) ∈ gT := gT_in (List.mem_append_right _ (List.mem_append_right _ (List.mem_append_right _ (List.mem_append_right _ (List.mem_append_left _ (List.mem_of_getElem? (i := 52) rfl)))))) rfl
theorem tw_773 : (Jvm.Cond.static ({ cls := "java/lang/Integer", name := "bitCount", desc := "(I)I" } : Jvm.MethodName)) ∈ gT := gT_in (List.mem_append_right _ (List.mem_append_right _ (List.mem_append_right _ (List.mem_append_right _ (List.mem_append_left _ (List.mem_of_getElem? (i := 53) rfl)))))) rfl
theorem tw_774 : (Jvm.Cond.code ({ cls := "java/lang/Integer", name := "bitCount", desc := "(I)I" } : Jvm.MethodName) prog_15_method_49_code (1 : Nat) (Option.some Jvm.ClassFile.FieldType.int)) ∈ gT := gT_in (List.mem_append_right _ (List.mem_append_right _ (List.mem_append_right _ (List.mem_append_right _ (List.mem_append_left _ (List.mem_of_getElem? (i := 54) rfl)))))) rfl
theorem tw_781 : (Jvm.Cond.methodLink "BoyBishop$Poll" (61 : Nat) ({ cls := "BoyBishop$Poll", name := "setWordsOf", desc := "(ILBoyBishop$Choir;LBoyBishop$Standing;)V" } : Jvm.MethodName)) ∈ gT := gT_in (List.mem_append_right _ (List.mem_append_right _ (List.mem_append_right _ (List.mem_append_right _ (List.mem_append_left _ (List.mem_of_getElem? (i := 61) rfl)))))) rfl
theorem tw_783 : (Jvm.Cond.instanceMethod ({ cls := "BoyBishop$Poll", name := "setWordsOf", desc := "(ILBoyBishop$Choir;LBoyBishop$Standing;)V" } : Jvm.MethodName)) ∈ gT := gT_in (List.mem_append_right _ (List.mem_append_right _ (List.mem_append_right _ (List.mem_append_right _ (List.mem_append_left _ (List.mem_of_getElem? (i := 63) rfl)))))) rfl
theorem tw_784 : (Jvm.Cond.code ({ cls := "BoyBishop$Poll", name := "setWordsOf", desc := "(ILBoyBishop$Choir;LBoyBishop$Standing;)V" } : Jvm.MethodName) prog_7_method_3_code (4 : Nat) (Option.none : Option Jvm.ClassFile.FieldType)) ∈ gT := gT_in (List.mem_append_right _ (List.mem_append_right _ (List.mem_append_right _ (List.mem_append_right _ (List.mem_append_left _ (List.mem_of_getElem? (i := 64) rfl)))))) rfl
theorem tw_785 : (Jvm.Cond.methodLink "BoyBishop$Poll" (71 : Nat) ({ cls := "BoyBishop$Rule", name := "want", desc := "([J)J" } : Jvm.MethodName)) ∈ gT := gT_in (List.mem_append_right _ (List.mem_append_right _ (List.mem_append_right _ (List.mem_append_right _ (List.mem_append_left _ (List.mem_of_getElem? (i := 65) rfl)))))) rfl
theorem tw_786 : (Jvm.Cond.instanceMethod ({ cls := "BoyBishop$Rule", name := "want", desc := "([J)J" } : Jvm.MethodName)) ∈ gT := gT_in (List.mem_append_right _ (List.mem_append_right _ (List.mem_append_right _ (List.mem_append_right _ (List.mem_append_left _ (List.mem_of_getElem? (i := 66) rfl)))))) rfl
theorem tw_787 : (Jvm.Cond.selects "BoyBishop$Rule" ({ cls := "BoyBishop$Rule", name := "want", desc := "([J)J" } : Jvm.MethodName) ({ cls := "BoyBishop$Rule", name := "want", desc := "([J)J" } : Jvm.MethodName)) ∈ gT := gT_in (List.mem_append_right _ (List.mem_append_right _ (List.mem_append_right _ (List.mem_append_right _ (List.mem_append_left _ (List.mem_of_getElem? (i := 67) rfl)))))) rfl
theorem tw_788 : (Jvm.Cond.code ({ cls := "BoyBishop$Rule", name := "want", desc := "([J)J" } : Jvm.MethodName) prog_8_method_7_code (3 : Nat) (Option.some Jvm.ClassFile.FieldType.long)) ∈ gT := gT_in (List.mem_append_right _ (List.mem_append_right _ (List.mem_append_right _ (List.mem_append_right _ (List.mem_append_left _ (List.mem_of_getElem? (i := 68) rfl)))))) rfl
theorem tw_796 : (Jvm.Cond.methodLink "BoyBishop$Poll" (75 : Nat) ({ cls := "BoyBishop$Poll", name := "mostWanted", desc := "(II)I" } : Jvm.MethodName)) ∈ gT := gT_in (List.mem_append_right _ (List.mem_append_right _ (List.mem_append_right _ (List.mem_append_right _ (List.mem_append_left _ (List.mem_of_getElem? (i := 76) rfl)))))) rfl
theorem tw_798 : (Jvm.Cond.instanceMethod ({ cls := "BoyBishop$Poll", name := "mostWanted", desc := "(II)I" } : Jvm.MethodName)) ∈ gT := gT_in (List.mem_append_right _ (List.mem_append_right _ (List.mem_append_right _ (List.mem_append_right _ (List.mem_append_left _ (List.mem_of_getElem? (i := 78) rfl)))))) rfl
theorem tw_799 : (Jvm.Cond.code ({ cls := "BoyBishop$Poll", name := "mostWanted", desc := "(II)I" } : Jvm.MethodName) prog_7_method_5_code (5 : Nat) (Option.some Jvm.ClassFile.FieldType.int)) ∈ gT := gT_in (List.mem_append_right _ (List.mem_append_right _ (List.mem_append_right _ (List.mem_append_right _ (List.mem_append_left _ (List.mem_of_getElem? (i := 79) rfl)))))) rfl
theorem tw_804 : (Jvm.Cond.methodLink "BoyBishop$Poll" (79 : Nat) ({ cls := "BoyBishop$Poll", name := "chosenWith", desc := "(II)I" } : Jvm.MethodName)) ∈ gT := gT_in (List.mem_append_right _ (List.mem_append_right _ (List.mem_append_right _ (List.mem_append_right _ (List.mem_append_left _ (List.mem_of_getElem? (i := 84) rfl)))))) rfl
theorem tw_806 : (Jvm.Cond.instanceMethod ({ cls := "BoyBishop$Poll", name := "chosenWith", desc := "(II)I" } : Jvm.MethodName)) ∈ gT := gT_in (List.mem_append_right _ (List.mem_append_right _ (List.mem_append_right _ (List.mem_append_right _ (List.mem_append_left _ (List.mem_of_getElem? (i := 86) rfl)))))) rfl
theorem tw_807 : (Jvm.Cond.code ({ cls := "BoyBishop$Poll", name := "chosenWith", desc := "(II)I" } : Jvm.MethodName) prog_7_method_7_code (5 : Nat) (Option.some Jvm.ClassFile.FieldType.int)) ∈ gT := gT_in (List.mem_append_right _ (List.mem_append_right _ (List.mem_append_right _ (List.mem_append_right _ (List.mem_append_left _ (List.mem_of_getElem? (i := 87) rfl)))))) rfl
theorem dX5_hold_0 : decode cX5_hold 0 = .ok (.aload_n 0, 1) := by decide +kernel
theorem dX5_hold_1 : decode cX5_hold 1 = .ok (.aload_n 1, 1) := by decide +kernel
theorem dX5_hold_2 : decode cX5_hold 2 = .ok (.getfield 30, 3) := by decide +kernel
theorem dX5_hold_5 : decode cX5_hold 5 = .ok (.putfield 36, 3) := by decide +kernel
theorem dX5_hold_8 : decode cX5_hold 8 = .ok (.aload_n 0, 1) := by decide +kernel
theorem dX5_hold_9 : decode cX5_hold 9 = .ok (.iconst 1, 1) := by decide +kernel
theorem dX5_hold_10 : decode cX5_hold 10 = .ok (.aload_n 0, 1) := by decide +kernel
theorem dX5_hold_11 : decode cX5_hold 11 = .ok (.getfield 36, 3) := by decide +kernel
theorem dX5_hold_14 : decode cX5_hold 14 = .ok (.ishl, 1) := by decide +kernel
theorem dX5_hold_15 : decode cX5_hold 15 = .ok (.iconst 1, 1) := by decide +kernel
theorem dX5_hold_16 : decode cX5_hold 16 = .ok (.isub, 1) := by decide +kernel
theorem dX5_hold_17 : decode cX5_hold 17 = .ok (.aload_n 2, 1) := by decide +kernel
theorem dX5_hold_18 : decode cX5_hold 18 = .ok (.aload_n 0, 1) := by decide +kernel
theorem dX5_hold_19 : decode cX5_hold 19 = .ok (.getfield 36, 3) := by decide +kernel
theorem dX5_hold_22 : decode cX5_hold 22 = .ok (.invokevirtual 37, 3) := by decide +kernel
theorem dX5_hold_25 : decode cX5_hold 25 = .ok (.iconst (-1), 1) := by decide +kernel
theorem dX5_hold_26 : decode cX5_hold 26 = .ok (.ixor, 1) := by decide +kernel
theorem dX5_hold_27 : decode cX5_hold 27 = .ok (.iand, 1) := by decide +kernel
theorem dX5_hold_28 : decode cX5_hold 28 = .ok (.putfield 43, 3) := by decide +kernel
theorem dX5_hold_31 : decode cX5_hold 31 = .ok (.aload_n 0, 1) := by decide +kernel
theorem dX5_hold_32 : decode cX5_hold 32 = .ok (.getfield 24, 3) := by decide +kernel
theorem dX5_hold_35 : decode cX5_hold 35 = .ok (.bipush 8, 2) := by decide +kernel
theorem dX5_hold_37 : decode cX5_hold 37 = .ok (.aload_n 2, 1) := by decide +kernel
theorem dX5_hold_38 : decode cX5_hold 38 = .ok (.getfield 46, 3) := by decide +kernel
theorem dX5_hold_41 : decode cX5_hold 41 = .ok (.i2l, 1) := by decide +kernel
theorem dX5_hold_42 : decode cX5_hold 42 = .ok (.lastore, 1) := by decide +kernel
theorem dX5_hold_43 : decode cX5_hold 43 = .ok (.aload_n 0, 1) := by decide +kernel
theorem dX5_hold_44 : decode cX5_hold 44 = .ok (.getfield 24, 3) := by decide +kernel
theorem dX5_hold_47 : decode cX5_hold 47 = .ok (.bipush 9, 2) := by decide +kernel
theorem dX5_hold_49 : decode cX5_hold 49 = .ok (.aload_n 2, 1) := by decide +kernel
theorem dX5_hold_50 : decode cX5_hold 50 = .ok (.getfield 49, 3) := by decide +kernel
theorem dX5_hold_53 : decode cX5_hold 53 = .ok (.i2l, 1) := by decide +kernel
theorem dX5_hold_54 : decode cX5_hold 54 = .ok (.lastore, 1) := by decide +kernel
theorem dX5_hold_55 : decode cX5_hold 55 = .ok (.aload_n 0, 1) := by decide +kernel
theorem dX5_hold_56 : decode cX5_hold 56 = .ok (.getfield 24, 3) := by decide +kernel
theorem dX5_hold_59 : decode cX5_hold 59 = .ok (.bipush 10, 2) := by decide +kernel
theorem dX5_hold_61 : decode cX5_hold 61 = .ok (.aload_n 0, 1) := by decide +kernel
theorem dX5_hold_62 : decode cX5_hold 62 = .ok (.getfield 43, 3) := by decide +kernel
theorem dX5_hold_65 : decode cX5_hold 65 = .ok (.invokestatic 52, 3) := by decide +kernel
theorem dX5_hold_68 : decode cX5_hold 68 = .ok (.i2l, 1) := by decide +kernel
theorem dX5_hold_69 : decode cX5_hold 69 = .ok (.lastore, 1) := by decide +kernel
theorem dX5_hold_70 : decode cX5_hold 70 = .ok (.iconst 0, 1) := by decide +kernel
theorem dX5_hold_71 : decode cX5_hold 71 = .ok (.istore 4, 2) := by decide +kernel
theorem dX5_hold_73 : decode cX5_hold 73 = .ok (.iload 4, 2) := by decide +kernel
theorem dX5_hold_75 : decode cX5_hold 75 = .ok (.aload_n 0, 1) := by decide +kernel
theorem dX5_hold_76 : decode cX5_hold 76 = .ok (.getfield 36, 3) := by decide +kernel
theorem dX5_hold_79 : decode cX5_hold 79 = .ok (.if_icmp .ge 141, 3) := by decide +kernel
theorem dX5_hold_82 : decode cX5_hold 82 = .ok (.aload_n 0, 1) := by decide +kernel
theorem dX5_hold_83 : decode cX5_hold 83 = .ok (.getfield 43, 3) := by decide +kernel
theorem dX5_hold_86 : decode cX5_hold 86 = .ok (.iload 4, 2) := by decide +kernel
theorem dX5_hold_88 : decode cX5_hold 88 = .ok (.invokestatic 57, 3) := by decide +kernel
theorem dX5_hold_91 : decode cX5_hold 91 = .ok (.ifCond .ne 6, 3) := by decide +kernel
theorem dX5_hold_94 : decode cX5_hold 94 = .ok (.goto 120, 3) := by decide +kernel
theorem dX5_hold_97 : decode cX5_hold 97 = .ok (.aload_n 0, 1) := by decide +kernel
theorem dX5_hold_98 : decode cX5_hold 98 = .ok (.iload 4, 2) := by decide +kernel
theorem dX5_hold_100 : decode cX5_hold 100 = .ok (.aload_n 1, 1) := by decide +kernel
theorem dX5_hold_101 : decode cX5_hold 101 = .ok (.aload_n 2, 1) := by decide +kernel
theorem dX5_hold_102 : decode cX5_hold 102 = .ok (.invokevirtual 61, 3) := by decide +kernel
theorem dX5_hold_105 : decode cX5_hold 105 = .ok (.iconst 0, 1) := by decide +kernel
theorem dX5_hold_106 : decode cX5_hold 106 = .ok (.istore 5, 2) := by decide +kernel
theorem dX5_hold_108 : decode cX5_hold 108 = .ok (.iload 5, 2) := by decide +kernel
theorem dX5_hold_110 : decode cX5_hold 110 = .ok (.aload_n 0, 1) := by decide +kernel
theorem dX5_hold_111 : decode cX5_hold 111 = .ok (.getfield 36, 3) := by decide +kernel
theorem dX5_hold_114 : decode cX5_hold 114 = .ok (.if_icmp .ge 100, 3) := by decide +kernel
theorem dX5_hold_117 : decode cX5_hold 117 = .ok (.aload_n 1, 1) := by decide +kernel
theorem dX5_hold_118 : decode cX5_hold 118 = .ok (.getfield 65, 3) := by decide +kernel
theorem dX5_hold_121 : decode cX5_hold 121 = .ok (.iload 5, 2) := by decide +kernel
theorem dX5_hold_123 : decode cX5_hold 123 = .ok (.bipush 6, 2) := by decide +kernel
theorem dX5_hold_125 : decode cX5_hold 125 = .ok (.imul, 1) := by decide +kernel
theorem dX5_hold_126 : decode cX5_hold 126 = .ok (.iload 4, 2) := by decide +kernel
theorem dX5_hold_128 : decode cX5_hold 128 = .ok (.iadd, 1) := by decide +kernel
theorem dX5_hold_129 : decode cX5_hold 129 = .ok (.iaload, 1) := by decide +kernel
theorem dX5_hold_130 : decode cX5_hold 130 = .ok (.istore 6, 2) := by decide +kernel
theorem dX5_hold_132 : decode cX5_hold 132 = .ok (.aload_n 0, 1) := by decide +kernel
theorem dX5_hold_133 : decode cX5_hold 133 = .ok (.getfield 24, 3) := by decide +kernel
theorem dX5_hold_136 : decode cX5_hold 136 = .ok (.iconst 0, 1) := by decide +kernel
theorem dX5_hold_137 : decode cX5_hold 137 = .ok (.iload 5, 2) := by decide +kernel
theorem dX5_hold_139 : decode cX5_hold 139 = .ok (.i2l, 1) := by decide +kernel
theorem dX5_hold_140 : decode cX5_hold 140 = .ok (.lastore, 1) := by decide +kernel
theorem dX5_hold_141 : decode cX5_hold 141 = .ok (.aload_n 0, 1) := by decide +kernel
theorem dX5_hold_142 : decode cX5_hold 142 = .ok (.getfield 24, 3) := by decide +kernel
theorem dX5_hold_145 : decode cX5_hold 145 = .ok (.iconst 4, 1) := by decide +kernel
theorem dX5_hold_146 : decode cX5_hold 146 = .ok (.iload 6, 2) := by decide +kernel
theorem dX5_hold_148 : decode cX5_hold 148 = .ok (.i2l, 1) := by decide +kernel
theorem dX5_hold_149 : decode cX5_hold 149 = .ok (.lastore, 1) := by decide +kernel
theorem dX5_hold_150 : decode cX5_hold 150 = .ok (.aload_n 0, 1) := by decide +kernel
theorem dX5_hold_151 : decode cX5_hold 151 = .ok (.getfield 24, 3) := by decide +kernel
theorem dX5_hold_154 : decode cX5_hold 154 = .ok (.bipush 7, 2) := by decide +kernel
theorem dX5_hold_156 : decode cX5_hold 156 = .ok (.iload 5, 2) := by decide +kernel
theorem dX5_hold_158 : decode cX5_hold 158 = .ok (.iload 4, 2) := by decide +kernel
theorem dX5_hold_160 : decode cX5_hold 160 = .ok (.if_icmp .ne 7, 3) := by decide +kernel
theorem dX5_hold_163 : decode cX5_hold 163 = .ok (.lconst 1, 1) := by decide +kernel
theorem dX5_hold_164 : decode cX5_hold 164 = .ok (.goto 4, 3) := by decide +kernel
theorem dX5_hold_167 : decode cX5_hold 167 = .ok (.lconst 0, 1) := by decide +kernel
theorem dX5_hold_168 : decode cX5_hold 168 = .ok (.lastore, 1) := by decide +kernel
theorem dX5_hold_169 : decode cX5_hold 169 = .ok (.aload_n 0, 1) := by decide +kernel
theorem dX5_hold_170 : decode cX5_hold 170 = .ok (.getfield 9, 3) := by decide +kernel
theorem dX5_hold_173 : decode cX5_hold 173 = .ok (.iload 5, 2) := by decide +kernel
theorem dX5_hold_175 : decode cX5_hold 175 = .ok (.bipush 6, 2) := by decide +kernel
theorem dX5_hold_177 : decode cX5_hold 177 = .ok (.imul, 1) := by decide +kernel
theorem dX5_hold_178 : decode cX5_hold 178 = .ok (.iload 4, 2) := by decide +kernel
theorem dX5_hold_180 : decode cX5_hold 180 = .ok (.iadd, 1) := by decide +kernel
theorem dX5_hold_181 : decode cX5_hold 181 = .ok (.aload_n 3, 1) := by decide +kernel
theorem dX5_hold_182 : decode cX5_hold 182 = .ok (.ifnonnull 17, 3) := by decide +kernel
theorem dX5_hold_185 : decode cX5_hold 185 = .ok (.iload 6, 2) := by decide +kernel
theorem dX5_hold_187 : decode cX5_hold 187 = .ok (.aload_n 2, 1) := by decide +kernel
theorem dX5_hold_188 : decode cX5_hold 188 = .ok (.getfield 68, 3) := by decide +kernel
theorem dX5_hold_191 : decode cX5_hold 191 = .ok (.iload 4, 2) := by decide +kernel
theorem dX5_hold_193 : decode cX5_hold 193 = .ok (.iaload, 1) := by decide +kernel
theorem dX5_hold_194 : decode cX5_hold 194 = .ok (.iadd, 1) := by decide +kernel
theorem dX5_hold_195 : decode cX5_hold 195 = .ok (.i2l, 1) := by decide +kernel
theorem dX5_hold_196 : decode cX5_hold 196 = .ok (.goto 11, 3) := by decide +kernel
theorem dX5_hold_199 : decode cX5_hold 199 = .ok (.aload_n 3, 1) := by decide +kernel
theorem dX5_hold_200 : decode cX5_hold 200 = .ok (.aload_n 0, 1) := by decide +kernel
theorem dX5_hold_201 : decode cX5_hold 201 = .ok (.getfield 24, 3) := by decide +kernel
theorem dX5_hold_204 : decode cX5_hold 204 = .ok (.invokevirtual 71, 3) := by decide +kernel
theorem dX5_hold_207 : decode cX5_hold 207 = .ok (.lastore, 1) := by decide +kernel
theorem dX5_hold_208 : decode cX5_hold 208 = .ok (.iinc 5 1, 3) := by decide +kernel
theorem dX5_hold_211 : decode cX5_hold 211 = .ok (.goto (-103), 3) := by decide +kernel
theorem dX5_hold_214 : decode cX5_hold 214 = .ok (.iinc 4 1, 3) := by decide +kernel
theorem dX5_hold_217 : decode cX5_hold 217 = .ok (.goto (-144), 3) := by decide +kernel
theorem dX5_hold_220 : decode cX5_hold 220 = .ok (.iconst 0, 1) := by decide +kernel
theorem dX5_hold_221 : decode cX5_hold 221 = .ok (.istore 4, 2) := by decide +kernel
theorem dX5_hold_223 : decode cX5_hold 223 = .ok (.iload 4, 2) := by decide +kernel
theorem dX5_hold_225 : decode cX5_hold 225 = .ok (.aload_n 0, 1) := by decide +kernel
theorem dX5_hold_226 : decode cX5_hold 226 = .ok (.getfield 36, 3) := by decide +kernel
theorem dX5_hold_229 : decode cX5_hold 229 = .ok (.if_icmp .ge 58, 3) := by decide +kernel
theorem dX5_hold_232 : decode cX5_hold 232 = .ok (.aload_n 0, 1) := by decide +kernel
theorem dX5_hold_233 : decode cX5_hold 233 = .ok (.iload 4, 2) := by decide +kernel
theorem dX5_hold_235 : decode cX5_hold 235 = .ok (.aload_n 0, 1) := by decide +kernel
theorem dX5_hold_236 : decode cX5_hold 236 = .ok (.getfield 43, 3) := by decide +kernel
theorem dX5_hold_239 : decode cX5_hold 239 = .ok (.invokevirtual 75, 3) := by decide +kernel
theorem dX5_hold_242 : decode cX5_hold 242 = .ok (.istore 5, 2) := by decide +kernel
theorem dX5_hold_244 : decode cX5_hold 244 = .ok (.aload_n 0, 1) := by decide +kernel
theorem dX5_hold_245 : decode cX5_hold 245 = .ok (.getfield 15, 3) := by decide +kernel
theorem dX5_hold_248 : decode cX5_hold 248 = .ok (.iload 4, 2) := by decide +kernel
theorem dX5_hold_250 : decode cX5_hold 250 = .ok (.iload 5, 2) := by decide +kernel
theorem dX5_hold_252 : decode cX5_hold 252 = .ok (.iconst (-1), 1) := by decide +kernel
theorem dX5_hold_253 : decode cX5_hold 253 = .ok (.if_icmp .eq 26, 3) := by decide +kernel
theorem dX5_hold_256 : decode cX5_hold 256 = .ok (.aload_n 0, 1) := by decide +kernel
theorem dX5_hold_257 : decode cX5_hold 257 = .ok (.getfield 9, 3) := by decide +kernel
theorem dX5_hold_260 : decode cX5_hold 260 = .ok (.iload 4, 2) := by decide +kernel
theorem dX5_hold_262 : decode cX5_hold 262 = .ok (.bipush 6, 2) := by decide +kernel
theorem dX5_hold_264 : decode cX5_hold 264 = .ok (.imul, 1) := by decide +kernel
theorem dX5_hold_265 : decode cX5_hold 265 = .ok (.iload 5, 2) := by decide +kernel
theorem dX5_hold_267 : decode cX5_hold 267 = .ok (.iadd, 1) := by decide +kernel
theorem dX5_hold_268 : decode cX5_hold 268 = .ok (.laload, 1) := by decide +kernel
theorem dX5_hold_269 : decode cX5_hold 269 = .ok (.lconst 0, 1) := by decide +kernel
theorem dX5_hold_270 : decode cX5_hold 270 = .ok (.lcmp, 1) := by decide +kernel
theorem dX5_hold_271 : decode cX5_hold 271 = .ok (.ifCond .le 8, 3) := by decide +kernel
theorem dX5_hold_274 : decode cX5_hold 274 = .ok (.iload 5, 2) := by decide +kernel
theorem dX5_hold_276 : decode cX5_hold 276 = .ok (.goto 4, 3) := by decide +kernel
theorem dX5_hold_279 : decode cX5_hold 279 = .ok (.iconst (-1), 1) := by decide +kernel
theorem dX5_hold_280 : decode cX5_hold 280 = .ok (.iastore, 1) := by decide +kernel
theorem dX5_hold_281 : decode cX5_hold 281 = .ok (.iinc 4 1, 3) := by decide +kernel
theorem dX5_hold_284 : decode cX5_hold 284 = .ok (.goto (-61), 3) := by decide +kernel
theorem dX5_hold_287 : decode cX5_hold 287 = .ok (.aload_n 0, 1) := by decide +kernel
theorem dX5_hold_288 : decode cX5_hold 288 = .ok (.aload_n 0, 1) := by decide +kernel
theorem dX5_hold_289 : decode cX5_hold 289 = .ok (.iconst (-1), 1) := by decide +kernel
theorem dX5_hold_290 : decode cX5_hold 290 = .ok (.iconst 0, 1) := by decide +kernel
theorem dX5_hold_291 : decode cX5_hold 291 = .ok (.invokevirtual 79, 3) := by decide +kernel
theorem dX5_hold_294 : decode cX5_hold 294 = .ok (.putfield 82, 3) := by decide +kernel
theorem dX5_hold_297 : decode cX5_hold 297 = .ok (.return_, 1) := by decide +kernel
theorem dX8_brokenVoices_0 : decode cX8_brokenVoices 0 = .ok (.iconst 0, 1) := by decide +kernel
theorem dX8_brokenVoices_1 : decode cX8_brokenVoices 1 = .ok (.istore_n 2, 1) := by decide +kernel
theorem dX8_brokenVoices_2 : decode cX8_brokenVoices 2 = .ok (.iconst 0, 1) := by decide +kernel
theorem dX8_brokenVoices_3 : decode cX8_brokenVoices 3 = .ok (.istore_n 3, 1) := by decide +kernel
theorem dX8_brokenVoices_4 : decode cX8_brokenVoices 4 = .ok (.iload_n 3, 1) := by decide +kernel
theorem dX8_brokenVoices_5 : decode cX8_brokenVoices 5 = .ok (.iload_n 1, 1) := by decide +kernel
theorem dX8_brokenVoices_6 : decode cX8_brokenVoices 6 = .ok (.if_icmp .ge 24, 3) := by decide +kernel
theorem dX8_brokenVoices_9 : decode cX8_brokenVoices 9 = .ok (.aload_n 0, 1) := by decide +kernel
theorem dX8_brokenVoices_10 : decode cX8_brokenVoices 10 = .ok (.getfield 18, 3) := by decide +kernel
theorem dX8_brokenVoices_13 : decode cX8_brokenVoices 13 = .ok (.iload_n 3, 1) := by decide +kernel
theorem dX8_brokenVoices_14 : decode cX8_brokenVoices 14 = .ok (.iaload, 1) := by decide +kernel
theorem dX8_brokenVoices_15 : decode cX8_brokenVoices 15 = .ok (.ifCond .ne 9, 3) := by decide +kernel
theorem dX8_brokenVoices_18 : decode cX8_brokenVoices 18 = .ok (.iload_n 2, 1) := by decide +kernel
theorem dX8_brokenVoices_19 : decode cX8_brokenVoices 19 = .ok (.iconst 1, 1) := by decide +kernel
theorem dX8_brokenVoices_20 : decode cX8_brokenVoices 20 = .ok (.iload_n 3, 1) := by decide +kernel
theorem dX8_brokenVoices_21 : decode cX8_brokenVoices 21 = .ok (.ishl, 1) := by decide +kernel
theorem dX8_brokenVoices_22 : decode cX8_brokenVoices 22 = .ok (.ior, 1) := by decide +kernel
theorem dX8_brokenVoices_23 : decode cX8_brokenVoices 23 = .ok (.istore_n 2, 1) := by decide +kernel
theorem dX8_brokenVoices_24 : decode cX8_brokenVoices 24 = .ok (.iinc 3 1, 3) := by decide +kernel
theorem dX8_brokenVoices_27 : decode cX8_brokenVoices 27 = .ok (.goto (-23), 3) := by decide +kernel
theorem dX8_brokenVoices_30 : decode cX8_brokenVoices 30 = .ok (.iload_n 2, 1) := by decide +kernel
theorem dX8_brokenVoices_31 : decode cX8_brokenVoices 31 = .ok (.ireturn, 1) := by decide +kernel
set_option maxHeartbeats 4000000 in
set_option maxRecDepth 100000 in
theorem t_X8_brokenVoices (l : Launch) (dC : Nat → ClassId) (dI : Nat → Nat → Nat) (tys : List (ClassId × FieldType)) (κ : tK) (B : Nat) (ws : va_W) (hT : Ty κ tys B ws) (a0 : Nat) (k_a0 : κ a0 = some 8) (a1 : Int32) (l_a1 : 0 ≤ a1.toInt) (h_a1 : a1.toInt ≤ 6) (sz : Nat) : Met l yX8_brokenVoices (ws_u yX8_brokenVoices cX8_brokenVoices 4 (some .int)) ({ frames := 0, cells := 0, slots := 0, locals := 0 }) (va_Pc [.ref a0, .int a1] (cPre (dC, dI) tys ws sz)) (va_Qi (fun (r : Int32) (w : va_W) => Ty κ tys B w ∧ Sm [] [] κ ws w) (fun w t => cPost (dC, dI) tys w (va_A ws sz) t) (va_A ws sz)) 0 0 (va_A ws sz) := by
  refine Met.ofW (cc := cX8_brokenVoices) (maxL := 4) (ret := (some .int)) (by decide) rfl ?_
  intro p e s m args below meth c s₁ B0 hml hv
  obtain ⟨rfl, hsz, hP, hK, hD0, hE⟩ := hv
  have hx := B0.exec
  have hb := B0.bytes
  have hr := B0.returns
  have hts0 := atoms_spec (ws := ws_u yX8_brokenVoices cX8_brokenVoices 4 (some .int)) B0.pre
  have hts : ∀ w ∈ gT, w.before _ s = true := fun w h => hts0 w (List.mem_cons_of_mem _ h)
  have hown : s.vm.findClass RX8 = some m.cls := findClass_of_methodNamed B0.named
  have hlocks := B0.notSynchronized
  subst hsz
  have hD := hD0.self (sz := s.heap.size)
  generalize hAe : va_A ws s.heap.size = A at hD ⊢
  have hA : ∀ q : Nat, s.heap.size ≤ q → A q := fun q h => by rw [← hAe]; exact Or.inr h
  have hw : tW (dC, dI) tys κ B A s ws s.heap [] := ⟨hK, hP, hD, va_S.rf, hT⟩
  have hM : Sm [] [] κ ws ws := Sm.rf
  clear hP hK hD hD0 hts0
  have hl := lv_entry ([.ref a0, .int a1]) (n := 4) (Nat.le_of_ble_eq_true rfl)
  rw [lg_entry_eq]
  generalize (lg_sl ([.ref a0, .int a1]) ++ List.replicate (4 - (lg_sl ([.ref a0, .int a1])).length) Slot.unset).toArray = ls at hl ⊢
  have hl : lv_has ls 4 [(0, .ref a0), (1, .int a1)] := hl
  refine t_start (fun QQ hQ => ?_)
  refine lv_iconst (v := 0) hx hb dX8_brokenVoices_0 (by decide) ?_
  refine lv_istore_n (lv' := [(2, .int 0), (0, .ref a0), (1, .int a1)]) hx hb dX8_brokenVoices_1 rfl hl (by decide) rfl (fun ls hl => ?_)
  refine lv_iconst (v := 0) hx hb dX8_brokenVoices_2 (by decide) ?_
  refine lv_istore_n (lv' := [(3, .int 0), (2, .int 0), (0, .ref a0), (1, .int a1)]) hx hb dX8_brokenVoices_3 rfl hl (by decide) rfl (fun ls hl => ?_)
  have J4 : ∀ (n : Nat) (H : Heap) (locs : List Loc) (ls : Array Slot), (∃ (w4 : va_W) (p4_l2 : Int32) (p4_l3 : Int32), tW (dC, dI) tys κ B A s w4 H locs ∧ Sm [] [] κ ws w4 ∧ (-2147483648) ≤ p4_l2.toInt ∧ p4_l2.toInt ≤ 2147483647 ∧ 0 ≤ p4_l3.toInt ∧ p4_l3.toInt ≤ 6 ∧ lv_has ls 4 [(0, .ref a0), (1, .int a1), (2, .int p4_l2), (3, .int p4_l3)] ∧ (6 - p4_l3.toInt).toNat = n) → W p l e (headSpec (ws_u yX8_brokenVoices cX8_brokenVoices 4 (some .int)) ({ frames := 0, cells := 0, slots := 0, locals := 0 })).room s m ([.ref a0, .int a1] : List Value).toArray below meth c H locs 0 0 QQ (F0 m 4 ls []) := by
    refine loopT _ ?_
    intro n_4 H locs ls hI ih_4
    obtain ⟨w4, p4_l2, p4_l3, hw, hM, l_p4_l2, h_p4_l2, l_p4_l3, h_p4_l3, hl, hn_4⟩ := hI
    refine lv_iload_n hx hb dX8_brokenVoices_4 rfl (lv_at hl 3 rfl) ?_
    refine lv_iload_n hx hb dX8_brokenVoices_5 rfl (lv_at hl 1 rfl) ?_
    refine lv_icmp_ge (tgt := 30) hx hb dX8_brokenVoices_6 (by decide) (fun c_6 => ?_) (fun c_6 => ?_)
    · simp only [fa_lt, fa_le, fa_eq] at c_6
      refine lv_iload_n hx hb dX8_brokenVoices_30 rfl (lv_at hl 2 rfl) ?_
      rw [hQ]
      refine W.widen (k := 0) (n := 0) (Nat.le_refl _) (Nat.le_refl _) ?_
      exact W.iret (v := p4_l2) hx hb hr (fun t ht hW => ⟨⟨p4_l2, w4, rfl, ⟨hw.2.2.2.2, hM⟩, by rw [ht]; exact hw.2.1, va_K.moved hW.alike hw.1, hw.2.2.1⟩, hw.2.2.2.1.F ht⟩) hw.2.2.2.1.2.2 dX8_brokenVoices_31
    · simp only [fa_lt, fa_le, fa_eq] at c_6
      refine lv_aload_n hx hb dX8_brokenVoices_9 rfl (lv_at hl 0 rfl) ?_
      refine t_getr (k1 := 43) (ci := 8) (C := RX8) (T := TX8) (N := 13) hx hb hts iX8 hown hw k_a0 rfl rfl rfl 7 (by decide) (hts _ tw_238) (fun _ h9 => h9) dX8_brokenVoices_10 rfl (fun v10 k_v10 f_a0_X8_7 => ?_)
      refine lv_iload_n hx hb dX8_brokenVoices_13 rfl (lv_at hl 3 rfl) ?_
      refine t_iald hx hb hw k_v10 rfl rfl (by omega) (show p4_l3.toInt < 6 by omega) dX8_brokenVoices_14 (fun v14 r_v14 s_v14 q_v14 => ?_)
      have l_v14 := i32_lo v14
      have h_v14 := i32_hi v14
      have J24 : ∀ (H : Heap) (locs : List Loc) (ls : Array Slot) (w24 : va_W) (p24_l2 : Int32), tW (dC, dI) tys κ B A s w24 H locs → Sm [] [] κ ws w24 → (-2147483648) ≤ p24_l2.toInt → p24_l2.toInt ≤ 2147483647 → fld w24 a0 8 7 (.ref v10) → lv_has ls 4 [(0, .ref a0), (1, .int a1), (2, .int p24_l2), (3, .int p4_l3)] → W p l e (headSpec (ws_u yX8_brokenVoices cX8_brokenVoices 4 (some .int)) ({ frames := 0, cells := 0, slots := 0, locals := 0 })).room s m ([.ref a0, .int a1] : List Value).toArray below meth c H locs 0 0 QQ (F0 m 24 ls []) := by
        intro H locs ls w24 p24_l2 hw hM l_p24_l2 h_p24_l2 f_a0_X8_7 hl
        obtain ⟨v24, e_v24⟩ : ∃ y : Int32, y = p4_l3 + 1 := ⟨_, rfl⟩
        refine lv_iinc (v := v24) (lv' := [(3, .int v24), (0, .ref a0), (1, .int a1), (2, .int p24_l2)]) hx hb dX8_brokenVoices_24 hl (k := 3) rfl e_v24.symm (by decide) rfl (fun ls hl => ?_)
        have e_v24 : v24.toInt = p4_l3.toInt + 1 := ad_i e_v24 rfl li_1 (by omega) (by omega)
        refine lv_goto (tgt := 4) hx hb dX8_brokenVoices_27 (by decide) ?_
        exact ih_4 _ _ _ _ (by omega) ⟨w24, p24_l2, v24, hw, hM, (by omega), (by omega), (by omega), (by omega), (lv_sub hl [1, 2, 3, 0] rfl), rfl⟩
      refine lv_if_ne (tgt := 24) hx hb dX8_brokenVoices_15 (by decide) (fun c_15 => ?_) (fun c_15 => ?_)
      · simp only [fa_lt, fa_le, fa_eq, li_0] at c_15
        exact J24 _ _ _ w4 p4_l2 hw hM (by omega) (by omega) f_a0_X8_7 (lv_sub hl [0, 1, 2, 3] rfl)
      · simp only [fa_lt, fa_le, fa_eq, li_0] at c_15
        refine lv_iload_n hx hb dX8_brokenVoices_18 rfl (lv_at hl 2 rfl) ?_
        refine lv_iconst (v := 1) hx hb dX8_brokenVoices_19 (by decide) ?_
        refine lv_iload_n hx hb dX8_brokenVoices_20 rfl (lv_at hl 3 rfl) ?_
        refine lv_ishl hx hb dX8_brokenVoices_21 ?_
        refine lv_topi (fun v21 e_v21 => ?_)
        have ⟨l_v21, h_v21⟩ := sh_i e_v21 (by omega) (by omega)
        refine lv_ior hx hb dX8_brokenVoices_22 ?_
        refine lv_topi (fun v22 e_v22 => ?_)
        have l_v22 := i32_lo v22
        have h_v22 := i32_hi v22
        refine lv_istore_n (lv' := [(2, .int v22), (0, .ref a0), (1, .int a1), (3, .int p4_l3)]) hx hb dX8_brokenVoices_23 rfl hl (by decide) rfl (fun ls hl => ?_)
        exact J24 _ _ _ w4 v22 hw hM (by omega) (by omega) f_a0_X8_7 (lv_sub hl [1, 2, 0, 3] rfl)
  exact J4 _ _ _ _ ⟨ws, 0, 0, hw, hM, (by decide), (by decide), (by decide), (by decide), (lv_sub hl [2, 3, 1, 0] rfl), rfl⟩
set_option maxHeartbeats 4000000 in
set_option maxRecDepth 100000 in
theorem t_X5_hold (l : Launch) (dC : Nat → ClassId) (dI : Nat → Nat → Nat) (tys : List (ClassId × FieldType)) (κ : tK) (B : Nat) (ws : va_W) (hT : Ty κ tys B ws) (a0 : Nat) (k_a0 : κ a0 = some 5) (a1 : Nat) (k_a1 : κ a1 = some 0) (a2 : Nat) (k_a2 : κ a2 = some 8) (a3 : Option Nat) (k_a3 : ∀ q : Nat, a3 = some q → κ q = some 6) (sz : Nat) : Met l yX5_hold (ws_u yX5_hold cX5_hold 7 none) ({ frames := 3, cells := 0, slots := 0, locals := 72 }) (va_Pc [.ref a0, .ref a1, .ref a2, va_rf a3] (cPre (dC, dI) tys ws sz)) (va_Qv (fun (w : va_W) => Ty κ tys B w ∧ Sm [(5, 0), (5, 1), (5, 5)] [33, 34, 35, 36, 42] κ ws w) (fun w t => cPost (dC, dI) tys w (va_A ws sz) t) (va_A ws sz)) 0 0 (va_A ws sz) := by
  refine Met.ofW (cc := cX5_hold) (maxL := 7) (ret := none) (by decide) rfl ?_
  intro p e s m args below meth c s₁ B0 hml hv
  obtain ⟨rfl, hsz, hP, hK, hD0, hE⟩ := hv
  have hx := B0.exec
  have hb := B0.bytes
  have hr := B0.returns
  have hts0 := atoms_spec (ws := ws_u yX5_hold cX5_hold 7 none) B0.pre
  have hts : ∀ w ∈ gT, w.before _ s = true := fun w h => hts0 w (List.mem_cons_of_mem _ h)
  have hown : s.vm.findClass RX5 = some m.cls := findClass_of_methodNamed B0.named
  have hlocks := B0.notSynchronized
  subst hsz
  have hD := hD0.self (sz := s.heap.size)
  generalize hAe : va_A ws s.heap.size = A at hD ⊢
  have hA : ∀ q : Nat, s.heap.size ≤ q → A q := fun q h => by rw [← hAe]; exact Or.inr h
  have hw : tW (dC, dI) tys κ B A s ws s.heap [] := ⟨hK, hP, hD, va_S.rf, hT⟩
  have hM : Sm [(5, 0), (5, 1), (5, 5)] [33, 34, 35, 36, 42] κ ws ws := Sm.rf
  clear hP hK hD hD0 hts0
  rcases a3 with _ | a3
  · have hl := lv_entry ([.ref a0, .ref a1, .ref a2, .null]) (n := 7) (Nat.le_of_ble_eq_true rfl)
    show W p l e (headSpec (ws_u yX5_hold cX5_hold 7 none) ({ frames := 3, cells := 0, slots := 0, locals := 72 })).room s m ([.ref a0, .ref a1, .ref a2, va_rf none] : List Value).toArray below meth c s.heap [] 0 0 _ (entryFrame m ([.ref a0, .ref a1, .ref a2, .null] : List Value).toArray 7)
    rw [lg_entry_eq]
    generalize (lg_sl ([.ref a0, .ref a1, .ref a2, .null]) ++ List.replicate (7 - (lg_sl ([.ref a0, .ref a1, .ref a2, .null])).length) Slot.unset).toArray = ls at hl ⊢
    have hl : lv_has ls 7 [(0, .ref a0), (1, .ref a1), (2, .ref a2), (3, .null)] := hl
    refine t_start (fun QQ hQ => ?_)
    refine lv_aload_n hx hb dX5_hold_0 rfl (lv_at hl 0 rfl) ?_
    refine lv_aload_n hx hb dX5_hold_1 rfl (lv_at hl 1 rfl) ?_
    refine t_geti (ci := 0) (C := RX0) (T := TX0) (N := 16) hx hb hts iX0 hown hw k_a1 rfl rfl rfl 3 (by decide) (hts _ tw_77) (fun _ h9 => h9) dX5_hold_2 rfl (fun v2 l_v2 h_v2 f_a1_X0_3 => ?_)
    have l_v2 : 0 ≤ v2.toInt := l_v2
    have h_v2 : v2.toInt ≤ 6 := h_v2
    refine t_put (ci := 5) (C := RX5) (T := TX5) (N := 8) (v := .int v2) hx hb hts iX5 tyX5 tyX5_ok nmX5 hown hw k_a0 rfl rfl rfl 0 (by decide) (hts _ tw_344) (fun _ h9 => h9) rfl (tyX5_ok 0 (by decide)) rfl rfl (okV.int rfl (by omega) (by omega)) dX5_hold_5 (fun w_1 H locs hw u => ?_)
    have hM := hM.up1 u (by decide)
    have f_a1_X0_3 := u.1 _ _ _ _ f_a1_X0_3 (Or.inr (Or.inl (by decide)))
    have f_a0_X5_0 := u.2.2
    refine lv_aload_n hx hb dX5_hold_8 rfl (lv_at hl 0 rfl) ?_
    refine lv_iconst (v := 1) hx hb dX5_hold_9 (by decide) ?_
    refine lv_aload_n hx hb dX5_hold_10 rfl (lv_at hl 0 rfl) ?_
    refine t_getk (ci := 5) (C := RX5) (T := TX5) (N := 8) hx hb hts iX5 hown hw rfl 0 (by decide) (hts _ tw_344) (fun _ h9 => h9) dX5_hold_11 f_a0_X5_0 ?_
    refine lv_ishl hx hb dX5_hold_14 ?_
    refine lv_topi (fun v14 e_v14 => ?_)
    have ⟨l_v14, h_v14⟩ := sh_i e_v14 (by omega) (by omega)
    refine lv_iconst (v := 1) hx hb dX5_hold_15 (by decide) ?_
    refine lv_isub hx hb dX5_hold_16 ?_
    refine lv_topi (fun v16 e_v16 => ?_)
    have e_v16 : v16.toInt = v14.toInt - 1 := sb_i e_v16 rfl li_1 (by omega) (by omega)
    refine lv_aload_n hx hb dX5_hold_17 rfl (lv_at hl 2 rfl) ?_
    refine lv_aload_n hx hb dX5_hold_18 rfl (lv_at hl 0 rfl) ?_
    refine t_getk (ci := 5) (C := RX5) (T := TX5) (N := 8) hx hb hts iX5 hown hw rfl 0 (by decide) (hts _ tw_344) (fun _ h9 => h9) dX5_hold_19 f_a0_X5_0 ?_
    refine t_calli (va_runV (As := [.int v2]) (rest := [.int v16, .ref a0]) ⟨hx, hb, hml, hown, hts⟩ (t_X8_brokenVoices l dC dI tys κ B w_1 hw.2.2.2.2 a2 k_a2 v2 (by omega) (by omega) H.size) (cwV 1 hts (gUV tw_768 tw_769 tw_770 tw_8 tw_771) rfl rfl rfl (by decide +kernel) ⟨(Nat.le_of_ble_eq_true rfl), (Nat.le_of_ble_eq_true rfl)⟩) ⟨cPre.blind, t_recv hw (ci := 8) k_a2 rfl rfl, cPre.use hw.2.1 hw.1 hw.2.2.1 hE⟩ rfl rfl hl.1 rfl (lv_room (Nat.le_of_ble_eq_true rfl)) dX5_hold_22 ⟨(Nat.le_of_ble_eq_true rfl), (Nat.le_of_ble_eq_true rfl)⟩) hw hA (fun _ _ h => h.1) (fun v22 w_2 H locs hp hw => ?_)
    obtain ⟨_, hm⟩ := hp
    have l_v22 := i32_lo v22
    have h_v22 := i32_hi v22
    have hM := hM.trans hm (by decide) (by decide)
    have f_a1_X0_3 := hm.1 _ _ _ _ f_a1_X0_3 (by decide)
    have f_a0_X5_0 := hm.1 _ _ _ _ f_a0_X5_0 (by decide)
    refine lv_iconst (v := (-1)) hx hb dX5_hold_25 (by decide) ?_
    refine lv_ixor hx hb dX5_hold_26 ?_
    refine lv_topi (fun v26 e_v26 => ?_)
    have l_v26 := i32_lo v26
    have h_v26 := i32_hi v26
    refine lv_iand hx hb dX5_hold_27 ?_
    refine lv_topi (fun v27 e_v27 => ?_)
    have ⟨l_v27, h_v27⟩ : 0 ≤ v27.toInt ∧ v27.toInt ≤ v16.toInt := and_l e_v27 rfl (by omega)
    refine t_put (ci := 5) (C := RX5) (T := TX5) (N := 8) (v := .int v27) hx hb hts iX5 tyX5 tyX5_ok nmX5 hown hw k_a0 rfl rfl rfl 1 (by decide) (hts _ tw_345) (fun _ h9 => h9) rfl (tyX5_ok 1 (by decide)) rfl rfl (okV.int rfl (by omega) (by omega)) dX5_hold_28 (fun w_3 H locs hw u => ?_)
    have hM := hM.up1 u (by decide)
    have f_a1_X0_3 := u.1 _ _ _ _ f_a1_X0_3 (Or.inr (Or.inl (by decide)))
    have f_a0_X5_0 := u.1 _ _ _ _ f_a0_X5_0 (Or.inr (Or.inr (by decide)))
    have f_a0_X5_1 := u.2.2
    refine lv_aload_n hx hb dX5_hold_31 rfl (lv_at hl 0 rfl) ?_
    refine t_getr (k1 := 36) (ci := 5) (C := RX5) (T := TX5) (N := 8) hx hb hts iX5 hown hw k_a0 rfl rfl rfl 6 (by decide) (hts _ tw_354) (fun _ h9 => h9) dX5_hold_32 rfl (fun v32 k_v32 f_a0_X5_6 => ?_)
    refine lv_bipush (v := 8) hx hb dX5_hold_35 (by decide) ?_
    refine lv_aload_n hx hb dX5_hold_37 rfl (lv_at hl 2 rfl) ?_
    refine t_geti (ci := 8) (C := RX8) (T := TX8) (N := 13) hx hb hts iX8 hown hw k_a2 rfl rfl rfl 0 (by decide) (hts _ tw_221) (fun _ h9 => h9) dX5_hold_38 rfl (fun v38 l_v38 h_v38 f_a2_X8_0 => ?_)
    have l_v38 : (-2147483648) ≤ v38.toInt := l_v38
    have h_v38 : v38.toInt ≤ 2147483647 := h_v38
    refine lv_i2l hx hb dX5_hold_41 rfl ?_
    refine lv_topl (fun v41 e_v41 => ?_)
    have t_v41 : v41.toInt = v38.toInt := by rw [e_v41, Int32.toInt_toInt64]
    refine t_last hx hb hw k_v32 rfl rfl (by decide) (by decide) dX5_hold_42 (fun w_4 H locs y hw u => ?_)
    have hM := hM.up2 u k_v32 (by decide)
    have f_a1_X0_3 := u.1 _ _ _ _ f_a1_X0_3
    have f_a0_X5_0 := u.1 _ _ _ _ f_a0_X5_0
    have f_a0_X5_1 := u.1 _ _ _ _ f_a0_X5_1
    have f_a0_X5_6 := u.1 _ _ _ _ f_a0_X5_6
    have f_a2_X8_0 := u.1 _ _ _ _ f_a2_X8_0
    refine lv_aload_n hx hb dX5_hold_43 rfl (lv_at hl 0 rfl) ?_
    refine t_getk (ci := 5) (C := RX5) (T := TX5) (N := 8) hx hb hts iX5 hown hw rfl 6 (by decide) (hts _ tw_354) (fun _ h9 => h9) dX5_hold_44 f_a0_X5_6 ?_
    refine lv_bipush (v := 9) hx hb dX5_hold_47 (by decide) ?_
    refine lv_aload_n hx hb dX5_hold_49 rfl (lv_at hl 2 rfl) ?_
    refine t_geti (ci := 8) (C := RX8) (T := TX8) (N := 13) hx hb hts iX8 hown hw k_a2 rfl rfl rfl 4 (by decide) (hts _ tw_232) (fun _ h9 => h9) dX5_hold_50 rfl (fun v50 l_v50 h_v50 f_a2_X8_4 => ?_)
    have l_v50 : (-2147483648) ≤ v50.toInt := l_v50
    have h_v50 : v50.toInt ≤ 2147483647 := h_v50
    refine lv_i2l hx hb dX5_hold_53 rfl ?_
    refine lv_topl (fun v53 e_v53 => ?_)
    have t_v53 : v53.toInt = v50.toInt := by rw [e_v53, Int32.toInt_toInt64]
    refine t_last hx hb hw k_v32 rfl rfl (by decide) (by decide) dX5_hold_54 (fun w_5 H locs y hw u => ?_)
    have hM := hM.up2 u k_v32 (by decide)
    have f_a1_X0_3 := u.1 _ _ _ _ f_a1_X0_3
    have f_a0_X5_0 := u.1 _ _ _ _ f_a0_X5_0
    have f_a0_X5_1 := u.1 _ _ _ _ f_a0_X5_1
    have f_a0_X5_6 := u.1 _ _ _ _ f_a0_X5_6
    have f_a2_X8_0 := u.1 _ _ _ _ f_a2_X8_0
    have f_a2_X8_4 := u.1 _ _ _ _ f_a2_X8_4
    refine lv_aload_n hx hb dX5_hold_55 rfl (lv_at hl 0 rfl) ?_
    refine t_getk (ci := 5) (C := RX5) (T := TX5) (N := 8) hx hb hts iX5 hown hw rfl 6 (by decide) (hts _ tw_354) (fun _ h9 => h9) dX5_hold_56 f_a0_X5_6 ?_
    refine lv_bipush (v := 10) hx hb dX5_hold_59 (by decide) ?_
    refine lv_aload_n hx hb dX5_hold_61 rfl (lv_at hl 0 rfl) ?_
    refine t_getk (ci := 5) (C := RX5) (T := TX5) (N := 8) hx hb hts iX5 hown hw rfl 1 (by decide) (hts _ tw_345) (fun _ h9 => h9) dX5_hold_62 f_a0_X5_1 ?_
    refine t_calli (va_runS (As := [.int v27]) (rest := [.int 10, .ref v32]) ⟨hx, hb, hml, hown, hts⟩ (t_J6_bitCount_0f7a4 l dC dI tys κ B w_5 hw.2.2.2.2 v27 H.size) (va_cwS 1 hts (gUS tw_772 tw_773 tw_21 tw_774) rfl rfl rfl (by decide +kernel) ⟨(Nat.le_of_ble_eq_true rfl), (Nat.le_of_ble_eq_true rfl)⟩) ⟨cPre.blind, cPre.use hw.2.1 hw.1 hw.2.2.1 hE⟩ rfl rfl hl.1 rfl (lv_room (Nat.le_of_ble_eq_true rfl)) dX5_hold_65 ⟨(Nat.le_of_ble_eq_true rfl), (Nat.le_of_ble_eq_true rfl)⟩) hw hA (fun _ _ h => h.2.2.1) (fun v65 w_6 H locs hp hw => ?_)
    obtain ⟨l_v65, h_v65, _, hm⟩ := hp
    have hM := hM.trans hm (by decide) (by decide)
    have f_a1_X0_3 := hm.1 _ _ _ _ f_a1_X0_3 (by decide)
    have f_a0_X5_0 := hm.1 _ _ _ _ f_a0_X5_0 (by decide)
    have f_a0_X5_1 := hm.1 _ _ _ _ f_a0_X5_1 (by decide)
    have f_a0_X5_6 := hm.1 _ _ _ _ f_a0_X5_6 (by decide)
    have f_a2_X8_0 := hm.1 _ _ _ _ f_a2_X8_0 (by decide)
    have f_a2_X8_4 := hm.1 _ _ _ _ f_a2_X8_4 (by decide)
    refine lv_i2l hx hb dX5_hold_68 rfl ?_
    refine lv_topl (fun v68 e_v68 => ?_)
    have t_v68 : v68.toInt = v65.toInt := by rw [e_v68, Int32.toInt_toInt64]
    refine t_last hx hb hw k_v32 rfl rfl (by decide) (by decide) dX5_hold_69 (fun w_7 H locs y hw u => ?_)
    have hM := hM.up2 u k_v32 (by decide)
    have f_a1_X0_3 := u.1 _ _ _ _ f_a1_X0_3
    have f_a0_X5_0 := u.1 _ _ _ _ f_a0_X5_0
    have f_a0_X5_1 := u.1 _ _ _ _ f_a0_X5_1
    have f_a0_X5_6 := u.1 _ _ _ _ f_a0_X5_6
    have f_a2_X8_0 := u.1 _ _ _ _ f_a2_X8_0
    have f_a2_X8_4 := u.1 _ _ _ _ f_a2_X8_4
    refine lv_iconst (v := 0) hx hb dX5_hold_70 (by decide) ?_
    refine lv_istore (lv' := [(4, .int 0), (0, .ref a0), (1, .ref a1), (2, .ref a2), (3, .null)]) hx hb dX5_hold_71 hl (by decide) rfl (fun ls hl => ?_)
    have J73 : ∀ (n : Nat) (H : Heap) (locs : List Loc) (ls : Array Slot), (∃ (w73 : va_W) (p73_l4 : Int32), tW (dC, dI) tys κ B A s w73 H locs ∧ Sm [(5, 0), (5, 1), (5, 5)] [33, 34, 35, 36, 42] κ ws w73 ∧ 0 ≤ p73_l4.toInt ∧ p73_l4.toInt ≤ 6 ∧ fld w73 a0 5 0 (.int v2) ∧ fld w73 a0 5 1 (.int v27) ∧ fld w73 a0 5 6 (.ref v32) ∧ fld w73 a1 0 3 (.int v2) ∧ fld w73 a2 8 0 (.int v38) ∧ fld w73 a2 8 4 (.int v50) ∧ lv_has ls 7 [(0, .ref a0), (1, .ref a1), (2, .ref a2), (3, .null), (4, .int p73_l4)] ∧ (6 - p73_l4.toInt).toNat = n) → W p l e (headSpec (ws_u yX5_hold cX5_hold 7 none) ({ frames := 3, cells := 0, slots := 0, locals := 72 })).room s m ([.ref a0, .ref a1, .ref a2, va_rf none] : List Value).toArray below meth c H locs 0 0 QQ (F0 m 73 ls []) := by
      refine loopT _ ?_
      intro n_73 H locs ls hI ih_73
      obtain ⟨w73, p73_l4, hw, hM, l_p73_l4, h_p73_l4, f_a0_X5_0, f_a0_X5_1, f_a0_X5_6, f_a1_X0_3, f_a2_X8_0, f_a2_X8_4, hl, hn_73⟩ := hI
      refine lv_iload hx hb dX5_hold_73 (lv_at hl 4 rfl) ?_
      refine lv_aload_n hx hb dX5_hold_75 rfl (lv_at hl 0 rfl) ?_
      refine t_getk (ci := 5) (C := RX5) (T := TX5) (N := 8) hx hb hts iX5 hown hw rfl 0 (by decide) (hts _ tw_344) (fun _ h9 => h9) dX5_hold_76 f_a0_X5_0 ?_
      refine lv_icmp_ge (tgt := 220) hx hb dX5_hold_79 (by decide) (fun c_79 => ?_) (fun c_79 => ?_)
      · simp only [fa_lt, fa_le, fa_eq] at c_79
        refine lv_iconst (v := 0) hx hb dX5_hold_220 (by decide) ?_
        refine lv_istore (lv' := [(4, .int 0), (0, .ref a0), (1, .ref a1), (2, .ref a2), (3, .null)]) hx hb dX5_hold_221 hl (by decide) rfl (fun ls hl => ?_)
        have J223 : ∀ (n : Nat) (H : Heap) (locs : List Loc) (ls : Array Slot), (∃ (w223 : va_W) (p223_l4 : Int32), tW (dC, dI) tys κ B A s w223 H locs ∧ Sm [(5, 0), (5, 1), (5, 5)] [33, 34, 35, 36, 42] κ ws w223 ∧ 0 ≤ p223_l4.toInt ∧ p223_l4.toInt ≤ 6 ∧ fld w223 a0 5 0 (.int v2) ∧ fld w223 a0 5 1 (.int v27) ∧ fld w223 a0 5 6 (.ref v32) ∧ fld w223 a1 0 3 (.int v2) ∧ fld w223 a2 8 0 (.int v38) ∧ fld w223 a2 8 4 (.int v50) ∧ lv_has ls 7 [(0, .ref a0), (1, .ref a1), (2, .ref a2), (3, .null), (4, .int p223_l4)] ∧ (6 - p223_l4.toInt).toNat = n) → W p l e (headSpec (ws_u yX5_hold cX5_hold 7 none) ({ frames := 3, cells := 0, slots := 0, locals := 72 })).room s m ([.ref a0, .ref a1, .ref a2, va_rf none] : List Value).toArray below meth c H locs 0 0 QQ (F0 m 223 ls []) := by
          refine loopT _ ?_
          intro n_223 H locs ls hI ih_223
          obtain ⟨w223, p223_l4, hw, hM, l_p223_l4, h_p223_l4, f_a0_X5_0, f_a0_X5_1, f_a0_X5_6, f_a1_X0_3, f_a2_X8_0, f_a2_X8_4, hl, hn_223⟩ := hI
          refine lv_iload hx hb dX5_hold_223 (lv_at hl 4 rfl) ?_
          refine lv_aload_n hx hb dX5_hold_225 rfl (lv_at hl 0 rfl) ?_
          refine t_getk (ci := 5) (C := RX5) (T := TX5) (N := 8) hx hb hts iX5 hown hw rfl 0 (by decide) (hts _ tw_344) (fun _ h9 => h9) dX5_hold_226 f_a0_X5_0 ?_
          refine lv_icmp_ge (tgt := 287) hx hb dX5_hold_229 (by decide) (fun c_229 => ?_) (fun c_229 => ?_)
          · simp only [fa_lt, fa_le, fa_eq] at c_229
            refine lv_aload_n hx hb dX5_hold_287 rfl (lv_at hl 0 rfl) ?_
            refine lv_aload_n hx hb dX5_hold_288 rfl (lv_at hl 0 rfl) ?_
            refine lv_iconst (v := (-1)) hx hb dX5_hold_289 (by decide) ?_
            refine lv_iconst (v := 0) hx hb dX5_hold_290 (by decide) ?_
            refine t_calli (va_runV (As := [.int (-1), .int 0]) (rest := [.ref a0]) ⟨hx, hb, hml, hown, hts⟩ (t_X5_chosenWith l dC dI tys κ B w223 hw.2.2.2.2 a0 k_a0 (-1) (by decide) (by decide) 0 (by decide) (by decide) H.size) (cwV 2 hts (gUV tw_804 tw_806 ts_1_8 tw_10 tw_807) rfl rfl rfl (by decide +kernel) ⟨(Nat.le_of_ble_eq_true rfl), (Nat.le_of_ble_eq_true rfl)⟩) ⟨cPre.blind, t_recv hw (ci := 5) k_a0 rfl rfl, cPre.use hw.2.1 hw.1 hw.2.2.1 hE⟩ rfl rfl hl.1 rfl (lv_room (Nat.le_of_ble_eq_true rfl)) dX5_hold_291 ⟨(Nat.le_of_ble_eq_true rfl), (Nat.le_of_ble_eq_true rfl)⟩) hw hA (fun _ _ h => h.2.2.1) (fun v291 w_8 H locs hp hw => ?_)
            obtain ⟨l_v291, h_v291, _, hm⟩ := hp
            have hM := hM.trans hm (by decide) (by decide)
            have f_a0_X5_0 := hm.1 _ _ _ _ f_a0_X5_0 (by decide)
            have f_a0_X5_1 := hm.1 _ _ _ _ f_a0_X5_1 (by decide)
            have f_a0_X5_6 := hm.1 _ _ _ _ f_a0_X5_6 (by decide)
            have f_a1_X0_3 := hm.1 _ _ _ _ f_a1_X0_3 (by decide)
            have f_a2_X8_0 := hm.1 _ _ _ _ f_a2_X8_0 (by decide)
            have f_a2_X8_4 := hm.1 _ _ _ _ f_a2_X8_4 (by decide)
            refine t_put (ci := 5) (C := RX5) (T := TX5) (N := 8) (v := .int v291) hx hb hts iX5 tyX5 tyX5_ok nmX5 hown hw k_a0 rfl rfl rfl 5 (by decide) (hts _ tw_352) (fun _ h9 => h9) rfl (tyX5_ok 5 (by decide)) rfl rfl (okV.int rfl (by omega) (by omega)) dX5_hold_294 (fun w_9 H locs hw u => ?_)
            have hM := hM.up1 u (by decide)
            have f_a0_X5_0 := u.1 _ _ _ _ f_a0_X5_0 (Or.inr (Or.inr (by decide)))
            have f_a0_X5_1 := u.1 _ _ _ _ f_a0_X5_1 (Or.inr (Or.inr (by decide)))
            have f_a0_X5_6 := u.1 _ _ _ _ f_a0_X5_6 (Or.inr (Or.inr (by decide)))
            have f_a1_X0_3 := u.1 _ _ _ _ f_a1_X0_3 (Or.inr (Or.inl (by decide)))
            have f_a2_X8_0 := u.1 _ _ _ _ f_a2_X8_0 (Or.inr (Or.inl (by decide)))
            have f_a2_X8_4 := u.1 _ _ _ _ f_a2_X8_4 (Or.inr (Or.inl (by decide)))
            have f_a0_X5_5 := u.2.2
            rw [hQ]
            refine W.widen (k := 0) (n := 0) (Nat.le_refl _) (Nat.le_refl _) ?_
            exact W.vret hx hb hr (fun t ht hW => ⟨⟨w_9, rfl, ⟨hw.2.2.2.2, hM⟩, by rw [ht]; exact hw.2.1, va_K.moved hW.alike hw.1, hw.2.2.1⟩, hw.2.2.2.1.F ht⟩) hw.2.2.2.1.2.2 dX5_hold_297
          · simp only [fa_lt, fa_le, fa_eq] at c_229
            refine lv_aload_n hx hb dX5_hold_232 rfl (lv_at hl 0 rfl) ?_
            refine lv_iload hx hb dX5_hold_233 (lv_at hl 4 rfl) ?_
            refine lv_aload_n hx hb dX5_hold_235 rfl (lv_at hl 0 rfl) ?_
            refine t_getk (ci := 5) (C := RX5) (T := TX5) (N := 8) hx hb hts iX5 hown hw rfl 1 (by decide) (hts _ tw_345) (fun _ h9 => h9) dX5_hold_236 f_a0_X5_1 ?_
            refine t_calli (va_runV (As := [.int p223_l4, .int v27]) (rest := []) ⟨hx, hb, hml, hown, hts⟩ (t_X5_mostWanted l dC dI tys κ B w223 hw.2.2.2.2 a0 k_a0 p223_l4 (by omega) (by omega) v27 H.size) (cwV 2 hts (gUV tw_796 tw_798 ts_1_6 tw_10 tw_799) rfl rfl rfl (by decide +kernel) ⟨(Nat.le_of_ble_eq_true rfl), (Nat.le_of_ble_eq_true rfl)⟩) ⟨cPre.blind, t_recv hw (ci := 5) k_a0 rfl rfl, cPre.use hw.2.1 hw.1 hw.2.2.1 hE⟩ rfl rfl hl.1 rfl (lv_room (Nat.le_of_ble_eq_true rfl)) dX5_hold_239 ⟨(Nat.le_of_ble_eq_true rfl), (Nat.le_of_ble_eq_true rfl)⟩) hw hA (fun _ _ h => h.2.2.1) (fun v239 w_10 H locs hp hw => ?_)
            obtain ⟨l_v239, h_v239, _, hm⟩ := hp
            have hM := hM.trans hm (by decide) (by decide)
            have f_a0_X5_0 := hm.1 _ _ _ _ f_a0_X5_0 (by decide)
            have f_a0_X5_1 := hm.1 _ _ _ _ f_a0_X5_1 (by decide)
            have f_a0_X5_6 := hm.1 _ _ _ _ f_a0_X5_6 (by decide)
            have f_a1_X0_3 := hm.1 _ _ _ _ f_a1_X0_3 (by decide)
            have f_a2_X8_0 := hm.1 _ _ _ _ f_a2_X8_0 (by decide)
            have f_a2_X8_4 := hm.1 _ _ _ _ f_a2_X8_4 (by decide)
            refine lv_istore (lv' := [(5, .int v239), (0, .ref a0), (1, .ref a1), (2, .ref a2), (3, .null), (4, .int p223_l4)]) hx hb dX5_hold_242 hl (by decide) rfl (fun ls hl => ?_)
            refine lv_aload_n hx hb dX5_hold_244 rfl (lv_at hl 1 rfl) ?_
            refine t_getr (k1 := 34) (ci := 5) (C := RX5) (T := TX5) (N := 8) hx hb hts iX5 hown hw k_a0 rfl rfl rfl 3 (by decide) (hts _ tw_347) (fun _ h9 => h9) dX5_hold_245 rfl (fun v245 k_v245 f_a0_X5_3 => ?_)
            refine lv_iload hx hb dX5_hold_248 (lv_at hl 5 rfl) ?_
            refine lv_iload hx hb dX5_hold_250 (lv_at hl 0 rfl) ?_
            refine lv_iconst (v := (-1)) hx hb dX5_hold_252 (by decide) ?_
            have J280 : ∀ (H : Heap) (locs : List Loc) (ls : Array Slot) (w280 : va_W) (p280_s0 : Int32), tW (dC, dI) tys κ B A s w280 H locs → Sm [(5, 0), (5, 1), (5, 5)] [33, 34, 35, 36, 42] κ ws w280 → (-1) ≤ p280_s0.toInt → p280_s0.toInt ≤ 5 → fld w280 a0 5 0 (.int v2) → fld w280 a0 5 1 (.int v27) → fld w280 a0 5 3 (.ref v245) → fld w280 a0 5 6 (.ref v32) → fld w280 a1 0 3 (.int v2) → fld w280 a2 8 0 (.int v38) → fld w280 a2 8 4 (.int v50) → lv_has ls 7 [(0, .ref a0), (1, .ref a1), (2, .ref a2), (3, .null), (4, .int p223_l4), (5, .int v239)] → W p l e (headSpec (ws_u yX5_hold cX5_hold 7 none) ({ frames := 3, cells := 0, slots := 0, locals := 72 })).room s m ([.ref a0, .ref a1, .ref a2, va_rf none] : List Value).toArray below meth c H locs 0 0 QQ (F0 m 280 ls [.int p280_s0, .int p223_l4, .ref v245]) := by
              intro H locs ls w280 p280_s0 hw hM l_p280_s0 h_p280_s0 f_a0_X5_0 f_a0_X5_1 f_a0_X5_3 f_a0_X5_6 f_a1_X0_3 f_a2_X8_0 f_a2_X8_4 hl
              refine t_iast hx hb hw k_v245 rfl rfl (by omega) (show p223_l4.toInt < 6 by omega) (show (-1) ≤ p280_s0.toInt by omega) (show p280_s0.toInt ≤ 5 by omega) dX5_hold_280 (fun w_11 H locs hw u => ?_)
              have hM := hM.up3 u k_v245 (by decide)
              have f_a0_X5_0 := u.1 _ _ _ _ f_a0_X5_0
              have f_a0_X5_1 := u.1 _ _ _ _ f_a0_X5_1
              have f_a0_X5_3 := u.1 _ _ _ _ f_a0_X5_3
              have f_a0_X5_6 := u.1 _ _ _ _ f_a0_X5_6
              have f_a1_X0_3 := u.1 _ _ _ _ f_a1_X0_3
              have f_a2_X8_0 := u.1 _ _ _ _ f_a2_X8_0
              have f_a2_X8_4 := u.1 _ _ _ _ f_a2_X8_4
              obtain ⟨v281, e_v281⟩ : ∃ y : Int32, y = p223_l4 + 1 := ⟨_, rfl⟩
              refine lv_iinc (v := v281) (lv' := [(4, .int v281), (0, .ref a0), (1, .ref a1), (2, .ref a2), (3, .null), (5, .int v239)]) hx hb dX5_hold_281 hl (k := 4) rfl e_v281.symm (by decide) rfl (fun ls hl => ?_)
              have e_v281 : v281.toInt = p223_l4.toInt + 1 := ad_i e_v281 rfl li_1 (by omega) (by omega)
              refine lv_goto (tgt := 223) hx hb dX5_hold_284 (by decide) ?_
              exact ih_223 _ _ _ _ (by omega) ⟨w_11, v281, hw, hM, (by omega), (by omega), f_a0_X5_0, f_a0_X5_1, f_a0_X5_6, f_a1_X0_3, f_a2_X8_0, f_a2_X8_4, (lv_sub hl [1, 2, 3, 4, 0] rfl), rfl⟩
            have J279 : ∀ (H : Heap) (locs : List Loc) (ls : Array Slot) (w279 : va_W), tW (dC, dI) tys κ B A s w279 H locs → Sm [(5, 0), (5, 1), (5, 5)] [33, 34, 35, 36, 42] κ ws w279 → fld w279 a0 5 0 (.int v2) → fld w279 a0 5 1 (.int v27) → fld w279 a0 5 3 (.ref v245) → fld w279 a0 5 6 (.ref v32) → fld w279 a1 0 3 (.int v2) → fld w279 a2 8 0 (.int v38) → fld w279 a2 8 4 (.int v50) → lv_has ls 7 [(0, .ref a0), (1, .ref a1), (2, .ref a2), (3, .null), (4, .int p223_l4), (5, .int v239)] → W p l e (headSpec (ws_u yX5_hold cX5_hold 7 none) ({ frames := 3, cells := 0, slots := 0, locals := 72 })).room s m ([.ref a0, .ref a1, .ref a2, va_rf none] : List Value).toArray below meth c H locs 0 0 QQ (F0 m 279 ls [.int p223_l4, .ref v245]) := by
              intro H locs ls w279 hw hM f_a0_X5_0 f_a0_X5_1 f_a0_X5_3 f_a0_X5_6 f_a1_X0_3 f_a2_X8_0 f_a2_X8_4 hl
              refine lv_iconst (v := (-1)) hx hb dX5_hold_279 (by decide) ?_
              exact J280 _ _ _ w279 (-1) hw hM (by decide) (by decide) f_a0_X5_0 f_a0_X5_1 f_a0_X5_3 f_a0_X5_6 f_a1_X0_3 f_a2_X8_0 f_a2_X8_4 (lv_sub hl [0, 1, 2, 3, 4, 5] rfl)
            refine lv_icmp_eq (tgt := 279) hx hb dX5_hold_253 (by decide) (fun c_253 => ?_) (fun c_253 => ?_)
            · simp only [fa_lt, fa_le, fa_eq, li_m1] at c_253
              exact J279 _ _ _ w_10 hw hM f_a0_X5_0 f_a0_X5_1 f_a0_X5_3 f_a0_X5_6 f_a1_X0_3 f_a2_X8_0 f_a2_X8_4 (lv_sub hl [1, 2, 3, 4, 5, 0] rfl)
            · simp only [fa_lt, fa_le, fa_eq, li_m1] at c_253
              refine lv_aload_n hx hb dX5_hold_256 rfl (lv_at hl 1 rfl) ?_
              refine t_getr (k1 := 33) (ci := 5) (C := RX5) (T := TX5) (N := 8) hx hb hts iX5 hown hw k_a0 rfl rfl rfl 2 (by decide) (hts _ tw_346) (fun _ h9 => h9) dX5_hold_257 rfl (fun v257 k_v257 f_a0_X5_2 => ?_)
              refine lv_iload hx hb dX5_hold_260 (lv_at hl 5 rfl) ?_
              refine lv_bipush (v := 6) hx hb dX5_hold_262 (by decide) ?_
              refine lv_imul hx hb dX5_hold_264 ?_
              refine lv_topi (fun v264 e_v264 => ?_)
              have e_v264 : v264.toInt = p223_l4.toInt * 6 := ml_i e_v264 rfl li_6 (by omega) (by omega)
              refine lv_iload hx hb dX5_hold_265 (lv_at hl 0 rfl) ?_
              refine lv_iadd hx hb dX5_hold_267 ?_
              refine lv_topi (fun v267 e_v267 => ?_)
              have e_v267 : v267.toInt = v264.toInt + v239.toInt := ad_i e_v267 rfl rfl (by omega) (by omega)
              refine t_lald hx hb hw k_v257 rfl rfl (by omega) (show v267.toInt < 36 by omega) dX5_hold_268 (fun v268 => ?_)
              refine lv_lconst (v := 0) hx hb dX5_hold_269 (by decide) ?_
              obtain ⟨v269, e_v269⟩ : ∃ y : Int64, y = 0 := ⟨_, rfl⟩
              refine W.eq (g2 := F0 m 270 ls [.long v269, .long v268, .int p223_l4, .ref v245]) (by rw [e_v269]) ?_
              have t_v269 : v269.toInt = 0 := by rw [e_v269]; decide
              refine W.lcmp hx hb dX5_hold_270 ?_
              refine lv_topi (fun v270 e_v270 => ?_)
              have l_v270 := i32_lo v270
              have h_v270 := i32_hi v270
              have g_v270 := lgc e_v270
              refine lv_if_le (tgt := 279) hx hb dX5_hold_271 (by decide) (fun c_271 => ?_) (fun c_271 => ?_)
              · simp only [fa_lt, fa_le, fa_eq, li_0] at c_271
                exact J279 _ _ _ w_10 hw hM f_a0_X5_0 f_a0_X5_1 f_a0_X5_3 f_a0_X5_6 f_a1_X0_3 f_a2_X8_0 f_a2_X8_4 (lv_sub hl [1, 2, 3, 4, 5, 0] rfl)
              · simp only [fa_lt, fa_le, fa_eq, li_0] at c_271
                refine lv_iload hx hb dX5_hold_274 (lv_at hl 0 rfl) ?_
                refine lv_goto (tgt := 280) hx hb dX5_hold_276 (by decide) ?_
                exact J280 _ _ _ w_10 v239 hw hM (by omega) (by omega) f_a0_X5_0 f_a0_X5_1 f_a0_X5_3 f_a0_X5_6 f_a1_X0_3 f_a2_X8_0 f_a2_X8_4 (lv_sub hl [1, 2, 3, 4, 5, 0] rfl)
        exact J223 _ _ _ _ ⟨w73, 0, hw, hM, (by decide), (by decide), f_a0_X5_0, f_a0_X5_1, f_a0_X5_6, f_a1_X0_3, f_a2_X8_0, f_a2_X8_4, (lv_sub hl [1, 2, 3, 4, 0] rfl), rfl⟩
      · simp only [fa_lt, fa_le, fa_eq] at c_79
        refine lv_aload_n hx hb dX5_hold_82 rfl (lv_at hl 0 rfl) ?_
        refine t_getk (ci := 5) (C := RX5) (T := TX5) (N := 8) hx hb hts iX5 hown hw rfl 1 (by decide) (hts _ tw_345) (fun _ h9 => h9) dX5_hold_83 f_a0_X5_1 ?_
        refine lv_iload hx hb dX5_hold_86 (lv_at hl 4 rfl) ?_
        refine t_calli (va_runS (As := [.int v27, .int p73_l4]) (rest := []) ⟨hx, hb, hml, hown, hts⟩ (t_X5_isIn l dC dI tys κ B w73 hw.2.2.2.2 v27 p73_l4 (by omega) (by omega) H.size) (va_cwS 2 hts (gUS tw_778 tw_779 tw_10 tw_780) rfl rfl rfl (by decide +kernel) ⟨(Nat.le_of_ble_eq_true rfl), (Nat.le_of_ble_eq_true rfl)⟩) ⟨cPre.blind, cPre.use hw.2.1 hw.1 hw.2.2.1 hE⟩ rfl rfl hl.1 rfl (lv_room (Nat.le_of_ble_eq_true rfl)) dX5_hold_88 ⟨(Nat.le_of_ble_eq_true rfl), (Nat.le_of_ble_eq_true rfl)⟩) hw hA (fun _ _ h => h.2.2.1) (fun v88 w_12 H locs hp hw => ?_)
        obtain ⟨l_v88, h_v88, _, hm⟩ := hp
        have hM := hM.trans hm (by decide) (by decide)
        have f_a0_X5_0 := hm.1 _ _ _ _ f_a0_X5_0 (by decide)
        have f_a0_X5_1 := hm.1 _ _ _ _ f_a0_X5_1 (by decide)
        have f_a0_X5_6 := hm.1 _ _ _ _ f_a0_X5_6 (by decide)
        have f_a1_X0_3 := hm.1 _ _ _ _ f_a1_X0_3 (by decide)
        have f_a2_X8_0 := hm.1 _ _ _ _ f_a2_X8_0 (by decide)
        have f_a2_X8_4 := hm.1 _ _ _ _ f_a2_X8_4 (by decide)
        have J214 : ∀ (H : Heap) (locs : List Loc) (ls : Array Slot) (w214 : va_W), tW (dC, dI) tys κ B A s w214 H locs → Sm [(5, 0), (5, 1), (5, 5)] [33, 34, 35, 36, 42] κ ws w214 → fld w214 a0 5 0 (.int v2) → fld w214 a0 5 1 (.int v27) → fld w214 a0 5 6 (.ref v32) → fld w214 a1 0 3 (.int v2) → fld w214 a2 8 0 (.int v38) → fld w214 a2 8 4 (.int v50) → lv_has ls 7 [(0, .ref a0), (1, .ref a1), (2, .ref a2), (3, .null), (4, .int p73_l4)] → W p l e (headSpec (ws_u yX5_hold cX5_hold 7 none) ({ frames := 3, cells := 0, slots := 0, locals := 72 })).room s m ([.ref a0, .ref a1, .ref a2, va_rf none] : List Value).toArray below meth c H locs 0 0 QQ (F0 m 214 ls []) := by
          intro H locs ls w214 hw hM f_a0_X5_0 f_a0_X5_1 f_a0_X5_6 f_a1_X0_3 f_a2_X8_0 f_a2_X8_4 hl
          obtain ⟨v214, e_v214⟩ : ∃ y : Int32, y = p73_l4 + 1 := ⟨_, rfl⟩
          refine lv_iinc (v := v214) (lv' := [(4, .int v214), (0, .ref a0), (1, .ref a1), (2, .ref a2), (3, .null)]) hx hb dX5_hold_214 hl (k := 4) rfl e_v214.symm (by decide) rfl (fun ls hl => ?_)
          have e_v214 : v214.toInt = p73_l4.toInt + 1 := ad_i e_v214 rfl li_1 (by omega) (by omega)
          refine lv_goto (tgt := 73) hx hb dX5_hold_217 (by decide) ?_
          exact ih_73 _ _ _ _ (by omega) ⟨w214, v214, hw, hM, (by omega), (by omega), f_a0_X5_0, f_a0_X5_1, f_a0_X5_6, f_a1_X0_3, f_a2_X8_0, f_a2_X8_4, (lv_sub hl [1, 2, 3, 4, 0] rfl), rfl⟩
        refine lv_if_ne (tgt := 97) hx hb dX5_hold_91 (by decide) (fun c_91 => ?_) (fun c_91 => ?_)
        · simp only [fa_lt, fa_le, fa_eq, li_0] at c_91
          refine lv_aload_n hx hb dX5_hold_97 rfl (lv_at hl 0 rfl) ?_
          refine lv_iload hx hb dX5_hold_98 (lv_at hl 4 rfl) ?_
          refine lv_aload_n hx hb dX5_hold_100 rfl (lv_at hl 1 rfl) ?_
          refine lv_aload_n hx hb dX5_hold_101 rfl (lv_at hl 2 rfl) ?_
          refine t_callv (va_runV (As := [.int p73_l4, .ref a1, .ref a2]) (rest := []) ⟨hx, hb, hml, hown, hts⟩ (t_X5_setWordsOf l dC dI tys κ B w_12 hw.2.2.2.2 a0 k_a0 p73_l4 (by omega) (by omega) a1 k_a1 a2 k_a2 H.size) (cwV 3 hts (gUV tw_781 tw_783 ts_1_4 tw_10 tw_784) rfl rfl rfl (by decide +kernel) ⟨(Nat.le_of_ble_eq_true rfl), (Nat.le_of_ble_eq_true rfl)⟩) ⟨cPre.blind, t_recv hw (ci := 5) k_a0 rfl rfl, cPre.use hw.2.1 hw.1 hw.2.2.1 hE⟩ rfl rfl hl.1 rfl (lv_room (Nat.le_of_ble_eq_true rfl)) dX5_hold_102 ⟨(Nat.le_of_ble_eq_true rfl), (Nat.le_of_ble_eq_true rfl)⟩) hw hA (fun _ h => h.1) (fun w_13 H locs hp hw => ?_)
          obtain ⟨_, hm⟩ := hp
          have hM := hM.trans hm (by decide) (by decide)
          have f_a0_X5_0 := hm.1 _ _ _ _ f_a0_X5_0 (by decide)
          have f_a0_X5_1 := hm.1 _ _ _ _ f_a0_X5_1 (by decide)
          have f_a0_X5_6 := hm.1 _ _ _ _ f_a0_X5_6 (by decide)
          have f_a1_X0_3 := hm.1 _ _ _ _ f_a1_X0_3 (by decide)
          have f_a2_X8_0 := hm.1 _ _ _ _ f_a2_X8_0 (by decide)
          have f_a2_X8_4 := hm.1 _ _ _ _ f_a2_X8_4 (by decide)
          refine lv_iconst (v := 0) hx hb dX5_hold_105 (by decide) ?_
          refine lv_istore (lv' := [(5, .int 0), (0, .ref a0), (1, .ref a1), (2, .ref a2), (3, .null), (4, .int p73_l4)]) hx hb dX5_hold_106 hl (by decide) rfl (fun ls hl => ?_)
          have J108 : ∀ (n : Nat) (H : Heap) (locs : List Loc) (ls : Array Slot), (∃ (w108 : va_W) (p108_l5 : Int32), tW (dC, dI) tys κ B A s w108 H locs ∧ Sm [(5, 0), (5, 1), (5, 5)] [33, 34, 35, 36, 42] κ ws w108 ∧ 0 ≤ p108_l5.toInt ∧ p108_l5.toInt ≤ 6 ∧ fld w108 a0 5 0 (.int v2) ∧ fld w108 a0 5 1 (.int v27) ∧ fld w108 a0 5 6 (.ref v32) ∧ fld w108 a1 0 3 (.int v2) ∧ fld w108 a2 8 0 (.int v38) ∧ fld w108 a2 8 4 (.int v50) ∧ lv_has ls 7 [(0, .ref a0), (1, .ref a1), (2, .ref a2), (3, .null), (4, .int p73_l4), (5, .int p108_l5)] ∧ (6 - p108_l5.toInt).toNat = n) → W p l e (headSpec (ws_u yX5_hold cX5_hold 7 none) ({ frames := 3, cells := 0, slots := 0, locals := 72 })).room s m ([.ref a0, .ref a1, .ref a2, va_rf none] : List Value).toArray below meth c H locs 0 0 QQ (F0 m 108 ls []) := by
            refine loopT _ ?_
            intro n_108 H locs ls hI ih_108
            obtain ⟨w108, p108_l5, hw, hM, l_p108_l5, h_p108_l5, f_a0_X5_0, f_a0_X5_1, f_a0_X5_6, f_a1_X0_3, f_a2_X8_0, f_a2_X8_4, hl, hn_108⟩ := hI
            refine lv_iload hx hb dX5_hold_108 (lv_at hl 5 rfl) ?_
            refine lv_aload_n hx hb dX5_hold_110 rfl (lv_at hl 0 rfl) ?_
            refine t_getk (ci := 5) (C := RX5) (T := TX5) (N := 8) hx hb hts iX5 hown hw rfl 0 (by decide) (hts _ tw_344) (fun _ h9 => h9) dX5_hold_111 f_a0_X5_0 ?_
            refine lv_icmp_ge (tgt := 214) hx hb dX5_hold_114 (by decide) (fun c_114 => ?_) (fun c_114 => ?_)
            · simp only [fa_lt, fa_le, fa_eq] at c_114
              exact J214 _ _ _ w108 hw hM f_a0_X5_0 f_a0_X5_1 f_a0_X5_6 f_a1_X0_3 f_a2_X8_0 f_a2_X8_4 (lv_sub hl [0, 1, 2, 3, 4] rfl)
            · simp only [fa_lt, fa_le, fa_eq] at c_114
              refine lv_aload_n hx hb dX5_hold_117 rfl (lv_at hl 1 rfl) ?_
              refine t_getr (k1 := 23) (ci := 0) (C := RX0) (T := TX0) (N := 16) hx hb hts iX0 hown hw k_a1 rfl rfl rfl 9 (by decide) (hts _ tw_102) (fun _ h9 => h9) dX5_hold_118 rfl (fun v118 k_v118 f_a1_X0_9 => ?_)
              refine lv_iload hx hb dX5_hold_121 (lv_at hl 5 rfl) ?_
              refine lv_bipush (v := 6) hx hb dX5_hold_123 (by decide) ?_
              refine lv_imul hx hb dX5_hold_125 ?_
              refine lv_topi (fun v125 e_v125 => ?_)
              have e_v125 : v125.toInt = p108_l5.toInt * 6 := ml_i e_v125 rfl li_6 (by omega) (by omega)
              refine lv_iload hx hb dX5_hold_126 (lv_at hl 4 rfl) ?_
              refine lv_iadd hx hb dX5_hold_128 ?_
              refine lv_topi (fun v128 e_v128 => ?_)
              have e_v128 : v128.toInt = v125.toInt + p73_l4.toInt := ad_i e_v128 rfl rfl (by omega) (by omega)
              refine t_iald hx hb hw k_v118 rfl rfl (by omega) (show v128.toInt < 36 by omega) dX5_hold_129 (fun v129 r_v129 s_v129 q_v129 => ?_)
              have l_v129 := i32_lo v129
              have h_v129 := i32_hi v129
              refine lv_istore (lv' := [(6, .int v129), (0, .ref a0), (1, .ref a1), (2, .ref a2), (3, .null), (4, .int p73_l4), (5, .int p108_l5)]) hx hb dX5_hold_130 hl (by decide) rfl (fun ls hl => ?_)
              refine lv_aload_n hx hb dX5_hold_132 rfl (lv_at hl 1 rfl) ?_
              refine t_getk (ci := 5) (C := RX5) (T := TX5) (N := 8) hx hb hts iX5 hown hw rfl 6 (by decide) (hts _ tw_354) (fun _ h9 => h9) dX5_hold_133 f_a0_X5_6 ?_
              refine lv_iconst (v := 0) hx hb dX5_hold_136 (by decide) ?_
              refine lv_iload hx hb dX5_hold_137 (lv_at hl 6 rfl) ?_
              refine lv_i2l hx hb dX5_hold_139 rfl ?_
              refine lv_topl (fun v139 e_v139 => ?_)
              have t_v139 : v139.toInt = p108_l5.toInt := by rw [e_v139, Int32.toInt_toInt64]
              refine t_last hx hb hw k_v32 rfl rfl (by decide) (by decide) dX5_hold_140 (fun w_14 H locs y hw u => ?_)
              have hM := hM.up2 u k_v32 (by decide)
              have f_a0_X5_0 := u.1 _ _ _ _ f_a0_X5_0
              have f_a0_X5_1 := u.1 _ _ _ _ f_a0_X5_1
              have f_a0_X5_6 := u.1 _ _ _ _ f_a0_X5_6
              have f_a1_X0_3 := u.1 _ _ _ _ f_a1_X0_3
              have f_a2_X8_0 := u.1 _ _ _ _ f_a2_X8_0
              have f_a2_X8_4 := u.1 _ _ _ _ f_a2_X8_4
              have f_a1_X0_9 := u.1 _ _ _ _ f_a1_X0_9
              refine lv_aload_n hx hb dX5_hold_141 rfl (lv_at hl 1 rfl) ?_
              refine t_getk (ci := 5) (C := RX5) (T := TX5) (N := 8) hx hb hts iX5 hown hw rfl 6 (by decide) (hts _ tw_354) (fun _ h9 => h9) dX5_hold_142 f_a0_X5_6 ?_
              refine lv_iconst (v := 4) hx hb dX5_hold_145 (by decide) ?_
              refine lv_iload hx hb dX5_hold_146 (lv_at hl 0 rfl) ?_
              refine lv_i2l hx hb dX5_hold_148 rfl ?_
              refine lv_topl (fun v148 e_v148 => ?_)
              have t_v148 : v148.toInt = v129.toInt := by rw [e_v148, Int32.toInt_toInt64]
              refine t_last hx hb hw k_v32 rfl rfl (by decide) (by decide) dX5_hold_149 (fun w_15 H locs y hw u => ?_)
              have hM := hM.up2 u k_v32 (by decide)
              have f_a0_X5_0 := u.1 _ _ _ _ f_a0_X5_0
              have f_a0_X5_1 := u.1 _ _ _ _ f_a0_X5_1
              have f_a0_X5_6 := u.1 _ _ _ _ f_a0_X5_6
              have f_a1_X0_3 := u.1 _ _ _ _ f_a1_X0_3
              have f_a2_X8_0 := u.1 _ _ _ _ f_a2_X8_0
              have f_a2_X8_4 := u.1 _ _ _ _ f_a2_X8_4
              have f_a1_X0_9 := u.1 _ _ _ _ f_a1_X0_9
              refine lv_aload_n hx hb dX5_hold_150 rfl (lv_at hl 1 rfl) ?_
              refine t_getk (ci := 5) (C := RX5) (T := TX5) (N := 8) hx hb hts iX5 hown hw rfl 6 (by decide) (hts _ tw_354) (fun _ h9 => h9) dX5_hold_151 f_a0_X5_6 ?_
              refine lv_bipush (v := 7) hx hb dX5_hold_154 (by decide) ?_
              refine lv_iload hx hb dX5_hold_156 (lv_at hl 6 rfl) ?_
              refine lv_iload hx hb dX5_hold_158 (lv_at hl 5 rfl) ?_
              have J168 : ∀ (H : Heap) (locs : List Loc) (ls : Array Slot) (w168 : va_W) (p168_s0 : Int64), tW (dC, dI) tys κ B A s w168 H locs → Sm [(5, 0), (5, 1), (5, 5)] [33, 34, 35, 36, 42] κ ws w168 → fld w168 a0 5 0 (.int v2) → fld w168 a0 5 1 (.int v27) → fld w168 a0 5 6 (.ref v32) → fld w168 a1 0 3 (.int v2) → fld w168 a1 0 9 (.ref v118) → fld w168 a2 8 0 (.int v38) → fld w168 a2 8 4 (.int v50) → lv_has ls 7 [(0, .ref a0), (1, .ref a1), (2, .ref a2), (3, .null), (4, .int p73_l4), (5, .int p108_l5), (6, .int v129)] → W p l e (headSpec (ws_u yX5_hold cX5_hold 7 none) ({ frames := 3, cells := 0, slots := 0, locals := 72 })).room s m ([.ref a0, .ref a1, .ref a2, va_rf none] : List Value).toArray below meth c H locs 0 0 QQ (F0 m 168 ls [.long p168_s0, .int 7, .ref v32]) := by
                intro H locs ls w168 p168_s0 hw hM f_a0_X5_0 f_a0_X5_1 f_a0_X5_6 f_a1_X0_3 f_a1_X0_9 f_a2_X8_0 f_a2_X8_4 hl
                refine t_last hx hb hw k_v32 rfl rfl (by decide) (by decide) dX5_hold_168 (fun w_16 H locs y hw u => ?_)
                have hM := hM.up2 u k_v32 (by decide)
                have f_a0_X5_0 := u.1 _ _ _ _ f_a0_X5_0
                have f_a0_X5_1 := u.1 _ _ _ _ f_a0_X5_1
                have f_a0_X5_6 := u.1 _ _ _ _ f_a0_X5_6
                have f_a1_X0_3 := u.1 _ _ _ _ f_a1_X0_3
                have f_a1_X0_9 := u.1 _ _ _ _ f_a1_X0_9
                have f_a2_X8_0 := u.1 _ _ _ _ f_a2_X8_0
                have f_a2_X8_4 := u.1 _ _ _ _ f_a2_X8_4
                refine lv_aload_n hx hb dX5_hold_169 rfl (lv_at hl 0 rfl) ?_
                refine t_getr (k1 := 33) (ci := 5) (C := RX5) (T := TX5) (N := 8) hx hb hts iX5 hown hw k_a0 rfl rfl rfl 2 (by decide) (hts _ tw_346) (fun _ h9 => h9) dX5_hold_170 rfl (fun v170 k_v170 f_a0_X5_2 => ?_)
                refine lv_iload hx hb dX5_hold_173 (lv_at hl 5 rfl) ?_
                refine lv_bipush (v := 6) hx hb dX5_hold_175 (by decide) ?_
                refine lv_imul hx hb dX5_hold_177 ?_
                refine lv_topi (fun v177 e_v177 => ?_)
                have e_v177 : v177.toInt = p108_l5.toInt * 6 := ml_i e_v177 rfl li_6 (by omega) (by omega)
                refine lv_iload hx hb dX5_hold_178 (lv_at hl 4 rfl) ?_
                refine lv_iadd hx hb dX5_hold_180 ?_
                refine lv_topi (fun v180 e_v180 => ?_)
                have e_v180 : v180.toInt = v177.toInt + p73_l4.toInt := ad_i e_v180 rfl rfl (by omega) (by omega)
                refine lv_aload_nN hx hb dX5_hold_181 rfl (lv_at hl 3 rfl) ?_
                have J207 : ∀ (H : Heap) (locs : List Loc) (ls : Array Slot) (w207 : va_W) (p207_s0 : Int64), tW (dC, dI) tys κ B A s w207 H locs → Sm [(5, 0), (5, 1), (5, 5)] [33, 34, 35, 36, 42] κ ws w207 → fld w207 a0 5 0 (.int v2) → fld w207 a0 5 1 (.int v27) → fld w207 a0 5 2 (.ref v170) → fld w207 a0 5 6 (.ref v32) → fld w207 a1 0 3 (.int v2) → fld w207 a1 0 9 (.ref v118) → fld w207 a2 8 0 (.int v38) → fld w207 a2 8 4 (.int v50) → lv_has ls 7 [(0, .ref a0), (1, .ref a1), (2, .ref a2), (3, .null), (4, .int p73_l4), (5, .int p108_l5), (6, .int v129)] → W p l e (headSpec (ws_u yX5_hold cX5_hold 7 none) ({ frames := 3, cells := 0, slots := 0, locals := 72 })).room s m ([.ref a0, .ref a1, .ref a2, va_rf none] : List Value).toArray below meth c H locs 0 0 QQ (F0 m 207 ls [.long p207_s0, .int v180, .ref v170]) := by
                  intro H locs ls w207 p207_s0 hw hM f_a0_X5_0 f_a0_X5_1 f_a0_X5_2 f_a0_X5_6 f_a1_X0_3 f_a1_X0_9 f_a2_X8_0 f_a2_X8_4 hl
                  refine t_last hx hb hw k_v170 rfl rfl (by omega) (show v180.toInt < 36 by omega) dX5_hold_207 (fun w_17 H locs y hw u => ?_)
                  have hM := hM.up2 u k_v170 (by decide)
                  have f_a0_X5_0 := u.1 _ _ _ _ f_a0_X5_0
                  have f_a0_X5_1 := u.1 _ _ _ _ f_a0_X5_1
                  have f_a0_X5_2 := u.1 _ _ _ _ f_a0_X5_2
                  have f_a0_X5_6 := u.1 _ _ _ _ f_a0_X5_6
                  have f_a1_X0_3 := u.1 _ _ _ _ f_a1_X0_3
                  have f_a1_X0_9 := u.1 _ _ _ _ f_a1_X0_9
                  have f_a2_X8_0 := u.1 _ _ _ _ f_a2_X8_0
                  have f_a2_X8_4 := u.1 _ _ _ _ f_a2_X8_4
                  obtain ⟨v208, e_v208⟩ : ∃ y : Int32, y = p108_l5 + 1 := ⟨_, rfl⟩
                  refine lv_iinc (v := v208) (lv' := [(5, .int v208), (0, .ref a0), (1, .ref a1), (2, .ref a2), (3, .null), (4, .int p73_l4), (6, .int v129)]) hx hb dX5_hold_208 hl (k := 5) rfl e_v208.symm (by decide) rfl (fun ls hl => ?_)
                  have e_v208 : v208.toInt = p108_l5.toInt + 1 := ad_i e_v208 rfl li_1 (by omega) (by omega)
                  refine lv_goto (tgt := 108) hx hb dX5_hold_211 (by decide) ?_
                  exact ih_108 _ _ _ _ (by omega) ⟨w_17, v208, hw, hM, (by omega), (by omega), f_a0_X5_0, f_a0_X5_1, f_a0_X5_6, f_a1_X0_3, f_a2_X8_0, f_a2_X8_4, (lv_sub hl [1, 2, 3, 4, 5, 0] rfl), rfl⟩
                refine lv_ifnonnullN hx hb dX5_hold_182 ?_
                refine lv_iload hx hb dX5_hold_185 (lv_at hl 6 rfl) ?_
                refine lv_aload_n hx hb dX5_hold_187 rfl (lv_at hl 2 rfl) ?_
                refine t_getr (k1 := 44) (ci := 8) (C := RX8) (T := TX8) (N := 13) hx hb hts iX8 hown hw k_a2 rfl rfl rfl 8 (by decide) (hts _ tw_243) (fun _ h9 => h9) dX5_hold_188 rfl (fun v188 k_v188 f_a2_X8_8 => ?_)
                refine lv_iload hx hb dX5_hold_191 (lv_at hl 4 rfl) ?_
                refine t_iald hx hb hw k_v188 rfl rfl (by omega) (show p73_l4.toInt < 6 by omega) dX5_hold_193 (fun v193 r_v193 s_v193 q_v193 => ?_)
                have l_v193 := i32_lo v193
                have h_v193 := i32_hi v193
                refine lv_iadd hx hb dX5_hold_194 ?_
                refine lv_topi (fun v194 e_v194 => ?_)
                have l_v194 := i32_lo v194
                have h_v194 := i32_hi v194
                refine lv_i2l hx hb dX5_hold_195 rfl ?_
                refine lv_topl (fun v195 e_v195 => ?_)
                have t_v195 : v195.toInt = v194.toInt := by rw [e_v195, Int32.toInt_toInt64]
                refine lv_goto (tgt := 207) hx hb dX5_hold_196 (by decide) ?_
                exact J207 _ _ _ w_16 v195 hw hM f_a0_X5_0 f_a0_X5_1 f_a0_X5_2 f_a0_X5_6 f_a1_X0_3 f_a1_X0_9 f_a2_X8_0 f_a2_X8_4 (lv_sub hl [0, 1, 2, 3, 4, 5, 6] rfl)
              refine lv_icmp_ne (tgt := 167) hx hb dX5_hold_160 (by decide) (fun c_160 => ?_) (fun c_160 => ?_)
              · simp only [fa_lt, fa_le, fa_eq] at c_160
                refine lv_lconst (v := 0) hx hb dX5_hold_167 (by decide) ?_
                obtain ⟨v167, e_v167⟩ : ∃ y : Int64, y = 0 := ⟨_, rfl⟩
                refine W.eq (g2 := F0 m 168 ls [.long v167, .int 7, .ref v32]) (by rw [e_v167]) ?_
                have t_v167 : v167.toInt = 0 := by rw [e_v167]; decide
                exact J168 _ _ _ w_15 v167 hw hM f_a0_X5_0 f_a0_X5_1 f_a0_X5_6 f_a1_X0_3 f_a1_X0_9 f_a2_X8_0 f_a2_X8_4 (lv_sub hl [1, 2, 3, 4, 5, 6, 0] rfl)
              · simp only [fa_lt, fa_le, fa_eq] at c_160
                refine lv_lconst (v := 1) hx hb dX5_hold_163 (by decide) ?_
                obtain ⟨v163, e_v163⟩ : ∃ y : Int64, y = 1 := ⟨_, rfl⟩
                refine W.eq (g2 := F0 m 164 ls [.long v163, .int 7, .ref v32]) (by rw [e_v163]) ?_
                have t_v163 : v163.toInt = 1 := by rw [e_v163]; decide
                refine lv_goto (tgt := 168) hx hb dX5_hold_164 (by decide) ?_
                exact J168 _ _ _ w_15 v163 hw hM f_a0_X5_0 f_a0_X5_1 f_a0_X5_6 f_a1_X0_3 f_a1_X0_9 f_a2_X8_0 f_a2_X8_4 (lv_sub hl [1, 2, 3, 4, 5, 6, 0] rfl)
          exact J108 _ _ _ _ ⟨w_13, 0, hw, hM, (by decide), (by decide), f_a0_X5_0, f_a0_X5_1, f_a0_X5_6, f_a1_X0_3, f_a2_X8_0, f_a2_X8_4, (lv_sub hl [1, 2, 3, 4, 5, 0] rfl), rfl⟩
        · simp only [fa_lt, fa_le, fa_eq, li_0] at c_91
          refine lv_goto (tgt := 214) hx hb dX5_hold_94 (by decide) ?_
          exact J214 _ _ _ w_12 hw hM f_a0_X5_0 f_a0_X5_1 f_a0_X5_6 f_a1_X0_3 f_a2_X8_0 f_a2_X8_4 (lv_sub hl [0, 1, 2, 3, 4] rfl)
    exact J73 _ _ _ _ ⟨w_7, 0, hw, hM, (by decide), (by decide), f_a0_X5_0, f_a0_X5_1, f_a0_X5_6, f_a1_X0_3, f_a2_X8_0, f_a2_X8_4, (lv_sub hl [1, 2, 3, 4, 0] rfl), rfl⟩
  · have k_a3 := k_a3 _ rfl
    have hl := lv_entry ([.ref a0, .ref a1, .ref a2, .ref a3]) (n := 7) (Nat.le_of_ble_eq_true rfl)
    show W p l e (headSpec (ws_u yX5_hold cX5_hold 7 none) ({ frames := 3, cells := 0, slots := 0, locals := 72 })).room s m ([.ref a0, .ref a1, .ref a2, va_rf (some a3)] : List Value).toArray below meth c s.heap [] 0 0 _ (entryFrame m ([.ref a0, .ref a1, .ref a2, .ref a3] : List Value).toArray 7)
    rw [lg_entry_eq]
    generalize (lg_sl ([.ref a0, .ref a1, .ref a2, .ref a3]) ++ List.replicate (7 - (lg_sl ([.ref a0, .ref a1, .ref a2, .ref a3])).length) Slot.unset).toArray = ls at hl ⊢
    have hl : lv_has ls 7 [(0, .ref a0), (1, .ref a1), (2, .ref a2), (3, .ref a3)] := hl
    refine t_start (fun QQ hQ => ?_)
    refine lv_aload_n hx hb dX5_hold_0 rfl (lv_at hl 0 rfl) ?_
    refine lv_aload_n hx hb dX5_hold_1 rfl (lv_at hl 1 rfl) ?_
    refine t_geti (ci := 0) (C := RX0) (T := TX0) (N := 16) hx hb hts iX0 hown hw k_a1 rfl rfl rfl 3 (by decide) (hts _ tw_77) (fun _ h9 => h9) dX5_hold_2 rfl (fun v2 l_v2 h_v2 f_a1_X0_3 => ?_)
    have l_v2 : 0 ≤ v2.toInt := l_v2
    have h_v2 : v2.toInt ≤ 6 := h_v2
    refine t_put (ci := 5) (C := RX5) (T := TX5) (N := 8) (v := .int v2) hx hb hts iX5 tyX5 tyX5_ok nmX5 hown hw k_a0 rfl rfl rfl 0 (by decide) (hts _ tw_344) (fun _ h9 => h9) rfl (tyX5_ok 0 (by decide)) rfl rfl (okV.int rfl (by omega) (by omega)) dX5_hold_5 (fun w_18 H locs hw u => ?_)
    have hM := hM.up1 u (by decide)
    have f_a1_X0_3 := u.1 _ _ _ _ f_a1_X0_3 (Or.inr (Or.inl (by decide)))
    have f_a0_X5_0 := u.2.2
    refine lv_aload_n hx hb dX5_hold_8 rfl (lv_at hl 0 rfl) ?_
    refine lv_iconst (v := 1) hx hb dX5_hold_9 (by decide) ?_
    refine lv_aload_n hx hb dX5_hold_10 rfl (lv_at hl 0 rfl) ?_
    refine t_getk (ci := 5) (C := RX5) (T := TX5) (N := 8) hx hb hts iX5 hown hw rfl 0 (by decide) (hts _ tw_344) (fun _ h9 => h9) dX5_hold_11 f_a0_X5_0 ?_
    refine lv_ishl hx hb dX5_hold_14 ?_
    refine lv_topi (fun v14 e_v14 => ?_)
    have ⟨l_v14, h_v14⟩ := sh_i e_v14 (by omega) (by omega)
    refine lv_iconst (v := 1) hx hb dX5_hold_15 (by decide) ?_
    refine lv_isub hx hb dX5_hold_16 ?_
    refine lv_topi (fun v16 e_v16 => ?_)
    have e_v16 : v16.toInt = v14.toInt - 1 := sb_i e_v16 rfl li_1 (by omega) (by omega)
    refine lv_aload_n hx hb dX5_hold_17 rfl (lv_at hl 2 rfl) ?_
    refine lv_aload_n hx hb dX5_hold_18 rfl (lv_at hl 0 rfl) ?_
    refine t_getk (ci := 5) (C := RX5) (T := TX5) (N := 8) hx hb hts iX5 hown hw rfl 0 (by decide) (hts _ tw_344) (fun _ h9 => h9) dX5_hold_19 f_a0_X5_0 ?_
    refine t_calli (va_runV (As := [.int v2]) (rest := [.int v16, .ref a0]) ⟨hx, hb, hml, hown, hts⟩ (t_X8_brokenVoices l dC dI tys κ B w_18 hw.2.2.2.2 a2 k_a2 v2 (by omega) (by omega) H.size) (cwV 1 hts (gUV tw_768 tw_769 tw_770 tw_8 tw_771) rfl rfl rfl (by decide +kernel) ⟨(Nat.le_of_ble_eq_true rfl), (Nat.le_of_ble_eq_true rfl)⟩) ⟨cPre.blind, t_recv hw (ci := 8) k_a2 rfl rfl, cPre.use hw.2.1 hw.1 hw.2.2.1 hE⟩ rfl rfl hl.1 rfl (lv_room (Nat.le_of_ble_eq_true rfl)) dX5_hold_22 ⟨(Nat.le_of_ble_eq_true rfl), (Nat.le_of_ble_eq_true rfl)⟩) hw hA (fun _ _ h => h.1) (fun v22 w_19 H locs hp hw => ?_)
    obtain ⟨_, hm⟩ := hp
    have l_v22 := i32_lo v22
    have h_v22 := i32_hi v22
    have hM := hM.trans hm (by decide) (by decide)
    have f_a1_X0_3 := hm.1 _ _ _ _ f_a1_X0_3 (by decide)
    have f_a0_X5_0 := hm.1 _ _ _ _ f_a0_X5_0 (by decide)
    refine lv_iconst (v := (-1)) hx hb dX5_hold_25 (by decide) ?_
    refine lv_ixor hx hb dX5_hold_26 ?_
    refine lv_topi (fun v26 e_v26 => ?_)
    have l_v26 := i32_lo v26
    have h_v26 := i32_hi v26
    refine lv_iand hx hb dX5_hold_27 ?_
    refine lv_topi (fun v27 e_v27 => ?_)
    have ⟨l_v27, h_v27⟩ : 0 ≤ v27.toInt ∧ v27.toInt ≤ v16.toInt := and_l e_v27 rfl (by omega)
    refine t_put (ci := 5) (C := RX5) (T := TX5) (N := 8) (v := .int v27) hx hb hts iX5 tyX5 tyX5_ok nmX5 hown hw k_a0 rfl rfl rfl 1 (by decide) (hts _ tw_345) (fun _ h9 => h9) rfl (tyX5_ok 1 (by decide)) rfl rfl (okV.int rfl (by omega) (by omega)) dX5_hold_28 (fun w_20 H locs hw u => ?_)
    have hM := hM.up1 u (by decide)
    have f_a1_X0_3 := u.1 _ _ _ _ f_a1_X0_3 (Or.inr (Or.inl (by decide)))
    have f_a0_X5_0 := u.1 _ _ _ _ f_a0_X5_0 (Or.inr (Or.inr (by decide)))
    have f_a0_X5_1 := u.2.2
    refine lv_aload_n hx hb dX5_hold_31 rfl (lv_at hl 0 rfl) ?_
    refine t_getr (k1 := 36) (ci := 5) (C := RX5) (T := TX5) (N := 8) hx hb hts iX5 hown hw k_a0 rfl rfl rfl 6 (by decide) (hts _ tw_354) (fun _ h9 => h9) dX5_hold_32 rfl (fun v32 k_v32 f_a0_X5_6 => ?_)
    refine lv_bipush (v := 8) hx hb dX5_hold_35 (by decide) ?_
    refine lv_aload_n hx hb dX5_hold_37 rfl (lv_at hl 2 rfl) ?_
    refine t_geti (ci := 8) (C := RX8) (T := TX8) (N := 13) hx hb hts iX8 hown hw k_a2 rfl rfl rfl 0 (by decide) (hts _ tw_221) (fun _ h9 => h9) dX5_hold_38 rfl (fun v38 l_v38 h_v38 f_a2_X8_0 => ?_)
    have l_v38 : (-2147483648) ≤ v38.toInt := l_v38
    have h_v38 : v38.toInt ≤ 2147483647 := h_v38
    refine lv_i2l hx hb dX5_hold_41 rfl ?_
    refine lv_topl (fun v41 e_v41 => ?_)
    have t_v41 : v41.toInt = v38.toInt := by rw [e_v41, Int32.toInt_toInt64]
    refine t_last hx hb hw k_v32 rfl rfl (by decide) (by decide) dX5_hold_42 (fun w_21 H locs y hw u => ?_)
    have hM := hM.up2 u k_v32 (by decide)
    have f_a1_X0_3 := u.1 _ _ _ _ f_a1_X0_3
    have f_a0_X5_0 := u.1 _ _ _ _ f_a0_X5_0
    have f_a0_X5_1 := u.1 _ _ _ _ f_a0_X5_1
    have f_a0_X5_6 := u.1 _ _ _ _ f_a0_X5_6
    have f_a2_X8_0 := u.1 _ _ _ _ f_a2_X8_0
    refine lv_aload_n hx hb dX5_hold_43 rfl (lv_at hl 0 rfl) ?_
    refine t_getk (ci := 5) (C := RX5) (T := TX5) (N := 8) hx hb hts iX5 hown hw rfl 6 (by decide) (hts _ tw_354) (fun _ h9 => h9) dX5_hold_44 f_a0_X5_6 ?_
    refine lv_bipush (v := 9) hx hb dX5_hold_47 (by decide) ?_
    refine lv_aload_n hx hb dX5_hold_49 rfl (lv_at hl 2 rfl) ?_
    refine t_geti (ci := 8) (C := RX8) (T := TX8) (N := 13) hx hb hts iX8 hown hw k_a2 rfl rfl rfl 4 (by decide) (hts _ tw_232) (fun _ h9 => h9) dX5_hold_50 rfl (fun v50 l_v50 h_v50 f_a2_X8_4 => ?_)
    have l_v50 : (-2147483648) ≤ v50.toInt := l_v50
    have h_v50 : v50.toInt ≤ 2147483647 := h_v50
    refine lv_i2l hx hb dX5_hold_53 rfl ?_
    refine lv_topl (fun v53 e_v53 => ?_)
    have t_v53 : v53.toInt = v50.toInt := by rw [e_v53, Int32.toInt_toInt64]
    refine t_last hx hb hw k_v32 rfl rfl (by decide) (by decide) dX5_hold_54 (fun w_22 H locs y hw u => ?_)
    have hM := hM.up2 u k_v32 (by decide)
    have f_a1_X0_3 := u.1 _ _ _ _ f_a1_X0_3
    have f_a0_X5_0 := u.1 _ _ _ _ f_a0_X5_0
    have f_a0_X5_1 := u.1 _ _ _ _ f_a0_X5_1
    have f_a0_X5_6 := u.1 _ _ _ _ f_a0_X5_6
    have f_a2_X8_0 := u.1 _ _ _ _ f_a2_X8_0
    have f_a2_X8_4 := u.1 _ _ _ _ f_a2_X8_4
    refine lv_aload_n hx hb dX5_hold_55 rfl (lv_at hl 0 rfl) ?_
    refine t_getk (ci := 5) (C := RX5) (T := TX5) (N := 8) hx hb hts iX5 hown hw rfl 6 (by decide) (hts _ tw_354) (fun _ h9 => h9) dX5_hold_56 f_a0_X5_6 ?_
    refine lv_bipush (v := 10) hx hb dX5_hold_59 (by decide) ?_
    refine lv_aload_n hx hb dX5_hold_61 rfl (lv_at hl 0 rfl) ?_
    refine t_getk (ci := 5) (C := RX5) (T := TX5) (N := 8) hx hb hts iX5 hown hw rfl 1 (by decide) (hts _ tw_345) (fun _ h9 => h9) dX5_hold_62 f_a0_X5_1 ?_
    refine t_calli (va_runS (As := [.int v27]) (rest := [.int 10, .ref v32]) ⟨hx, hb, hml, hown, hts⟩ (t_J6_bitCount_0f7a4 l dC dI tys κ B w_22 hw.2.2.2.2 v27 H.size) (va_cwS 1 hts (gUS tw_772 tw_773 tw_21 tw_774) rfl rfl rfl (by decide +kernel) ⟨(Nat.le_of_ble_eq_true rfl), (Nat.le_of_ble_eq_true rfl)⟩) ⟨cPre.blind, cPre.use hw.2.1 hw.1 hw.2.2.1 hE⟩ rfl rfl hl.1 rfl (lv_room (Nat.le_of_ble_eq_true rfl)) dX5_hold_65 ⟨(Nat.le_of_ble_eq_true rfl), (Nat.le_of_ble_eq_true rfl)⟩) hw hA (fun _ _ h => h.2.2.1) (fun v65 w_23 H locs hp hw => ?_)
    obtain ⟨l_v65, h_v65, _, hm⟩ := hp
    have hM := hM.trans hm (by decide) (by decide)
    have f_a1_X0_3 := hm.1 _ _ _ _ f_a1_X0_3 (by decide)
    have f_a0_X5_0 := hm.1 _ _ _ _ f_a0_X5_0 (by decide)
    have f_a0_X5_1 := hm.1 _ _ _ _ f_a0_X5_1 (by decide)
    have f_a0_X5_6 := hm.1 _ _ _ _ f_a0_X5_6 (by decide)
    have f_a2_X8_0 := hm.1 _ _ _ _ f_a2_X8_0 (by decide)
    have f_a2_X8_4 := hm.1 _ _ _ _ f_a2_X8_4 (by decide)
    refine lv_i2l hx hb dX5_hold_68 rfl ?_
    refine lv_topl (fun v68 e_v68 => ?_)
    have t_v68 : v68.toInt = v65.toInt := by rw [e_v68, Int32.toInt_toInt64]
    refine t_last hx hb hw k_v32 rfl rfl (by decide) (by decide) dX5_hold_69 (fun w_24 H locs y hw u => ?_)
    have hM := hM.up2 u k_v32 (by decide)
    have f_a1_X0_3 := u.1 _ _ _ _ f_a1_X0_3
    have f_a0_X5_0 := u.1 _ _ _ _ f_a0_X5_0
    have f_a0_X5_1 := u.1 _ _ _ _ f_a0_X5_1
    have f_a0_X5_6 := u.1 _ _ _ _ f_a0_X5_6
    have f_a2_X8_0 := u.1 _ _ _ _ f_a2_X8_0
    have f_a2_X8_4 := u.1 _ _ _ _ f_a2_X8_4
    refine lv_iconst (v := 0) hx hb dX5_hold_70 (by decide) ?_
    refine lv_istore (lv' := [(4, .int 0), (0, .ref a0), (1, .ref a1), (2, .ref a2), (3, .ref a3)]) hx hb dX5_hold_71 hl (by decide) rfl (fun ls hl => ?_)
    have J73 : ∀ (n : Nat) (H : Heap) (locs : List Loc) (ls : Array Slot), (∃ (w73 : va_W) (p73_l4 : Int32), tW (dC, dI) tys κ B A s w73 H locs ∧ Sm [(5, 0), (5, 1), (5, 5)] [33, 34, 35, 36, 42] κ ws w73 ∧ 0 ≤ p73_l4.toInt ∧ p73_l4.toInt ≤ 6 ∧ fld w73 a0 5 0 (.int v2) ∧ fld w73 a0 5 1 (.int v27) ∧ fld w73 a0 5 6 (.ref v32) ∧ fld w73 a1 0 3 (.int v2) ∧ fld w73 a2 8 0 (.int v38) ∧ fld w73 a2 8 4 (.int v50) ∧ lv_has ls 7 [(0, .ref a0), (1, .ref a1), (2, .ref a2), (3, .ref a3), (4, .int p73_l4)] ∧ (6 - p73_l4.toInt).toNat = n) → W p l e (headSpec (ws_u yX5_hold cX5_hold 7 none) ({ frames := 3, cells := 0, slots := 0, locals := 72 })).room s m ([.ref a0, .ref a1, .ref a2, va_rf (some a3)] : List Value).toArray below meth c H locs 0 0 QQ (F0 m 73 ls []) := by
      refine loopT _ ?_
      intro n_73 H locs ls hI ih_73
      obtain ⟨w73, p73_l4, hw, hM, l_p73_l4, h_p73_l4, f_a0_X5_0, f_a0_X5_1, f_a0_X5_6, f_a1_X0_3, f_a2_X8_0, f_a2_X8_4, hl, hn_73⟩ := hI
      refine lv_iload hx hb dX5_hold_73 (lv_at hl 4 rfl) ?_
      refine lv_aload_n hx hb dX5_hold_75 rfl (lv_at hl 0 rfl) ?_
      refine t_getk (ci := 5) (C := RX5) (T := TX5) (N := 8) hx hb hts iX5 hown hw rfl 0 (by decide) (hts _ tw_344) (fun _ h9 => h9) dX5_hold_76 f_a0_X5_0 ?_
      refine lv_icmp_ge (tgt := 220) hx hb dX5_hold_79 (by decide) (fun c_79 => ?_) (fun c_79 => ?_)
      · simp only [fa_lt, fa_le, fa_eq] at c_79
        refine lv_iconst (v := 0) hx hb dX5_hold_220 (by decide) ?_
        refine lv_istore (lv' := [(4, .int 0), (0, .ref a0), (1, .ref a1), (2, .ref a2), (3, .ref a3)]) hx hb dX5_hold_221 hl (by decide) rfl (fun ls hl => ?_)
        have J223 : ∀ (n : Nat) (H : Heap) (locs : List Loc) (ls : Array Slot), (∃ (w223 : va_W) (p223_l4 : Int32), tW (dC, dI) tys κ B A s w223 H locs ∧ Sm [(5, 0), (5, 1), (5, 5)] [33, 34, 35, 36, 42] κ ws w223 ∧ 0 ≤ p223_l4.toInt ∧ p223_l4.toInt ≤ 6 ∧ fld w223 a0 5 0 (.int v2) ∧ fld w223 a0 5 1 (.int v27) ∧ fld w223 a0 5 6 (.ref v32) ∧ fld w223 a1 0 3 (.int v2) ∧ fld w223 a2 8 0 (.int v38) ∧ fld w223 a2 8 4 (.int v50) ∧ lv_has ls 7 [(0, .ref a0), (1, .ref a1), (2, .ref a2), (3, .ref a3), (4, .int p223_l4)] ∧ (6 - p223_l4.toInt).toNat = n) → W p l e (headSpec (ws_u yX5_hold cX5_hold 7 none) ({ frames := 3, cells := 0, slots := 0, locals := 72 })).room s m ([.ref a0, .ref a1, .ref a2, va_rf (some a3)] : List Value).toArray below meth c H locs 0 0 QQ (F0 m 223 ls []) := by
          refine loopT _ ?_
          intro n_223 H locs ls hI ih_223
          obtain ⟨w223, p223_l4, hw, hM, l_p223_l4, h_p223_l4, f_a0_X5_0, f_a0_X5_1, f_a0_X5_6, f_a1_X0_3, f_a2_X8_0, f_a2_X8_4, hl, hn_223⟩ := hI
          refine lv_iload hx hb dX5_hold_223 (lv_at hl 4 rfl) ?_
          refine lv_aload_n hx hb dX5_hold_225 rfl (lv_at hl 0 rfl) ?_
          refine t_getk (ci := 5) (C := RX5) (T := TX5) (N := 8) hx hb hts iX5 hown hw rfl 0 (by decide) (hts _ tw_344) (fun _ h9 => h9) dX5_hold_226 f_a0_X5_0 ?_
          refine lv_icmp_ge (tgt := 287) hx hb dX5_hold_229 (by decide) (fun c_229 => ?_) (fun c_229 => ?_)
          · simp only [fa_lt, fa_le, fa_eq] at c_229
            refine lv_aload_n hx hb dX5_hold_287 rfl (lv_at hl 0 rfl) ?_
            refine lv_aload_n hx hb dX5_hold_288 rfl (lv_at hl 0 rfl) ?_
            refine lv_iconst (v := (-1)) hx hb dX5_hold_289 (by decide) ?_
            refine lv_iconst (v := 0) hx hb dX5_hold_290 (by decide) ?_
            refine t_calli (va_runV (As := [.int (-1), .int 0]) (rest := [.ref a0]) ⟨hx, hb, hml, hown, hts⟩ (t_X5_chosenWith l dC dI tys κ B w223 hw.2.2.2.2 a0 k_a0 (-1) (by decide) (by decide) 0 (by decide) (by decide) H.size) (cwV 2 hts (gUV tw_804 tw_806 ts_1_8 tw_10 tw_807) rfl rfl rfl (by decide +kernel) ⟨(Nat.le_of_ble_eq_true rfl), (Nat.le_of_ble_eq_true rfl)⟩) ⟨cPre.blind, t_recv hw (ci := 5) k_a0 rfl rfl, cPre.use hw.2.1 hw.1 hw.2.2.1 hE⟩ rfl rfl hl.1 rfl (lv_room (Nat.le_of_ble_eq_true rfl)) dX5_hold_291 ⟨(Nat.le_of_ble_eq_true rfl), (Nat.le_of_ble_eq_true rfl)⟩) hw hA (fun _ _ h => h.2.2.1) (fun v291 w_25 H locs hp hw => ?_)
            obtain ⟨l_v291, h_v291, _, hm⟩ := hp
            have hM := hM.trans hm (by decide) (by decide)
            have f_a0_X5_0 := hm.1 _ _ _ _ f_a0_X5_0 (by decide)
            have f_a0_X5_1 := hm.1 _ _ _ _ f_a0_X5_1 (by decide)
            have f_a0_X5_6 := hm.1 _ _ _ _ f_a0_X5_6 (by decide)
            have f_a1_X0_3 := hm.1 _ _ _ _ f_a1_X0_3 (by decide)
            have f_a2_X8_0 := hm.1 _ _ _ _ f_a2_X8_0 (by decide)
            have f_a2_X8_4 := hm.1 _ _ _ _ f_a2_X8_4 (by decide)
            refine t_put (ci := 5) (C := RX5) (T := TX5) (N := 8) (v := .int v291) hx hb hts iX5 tyX5 tyX5_ok nmX5 hown hw k_a0 rfl rfl rfl 5 (by decide) (hts _ tw_352) (fun _ h9 => h9) rfl (tyX5_ok 5 (by decide)) rfl rfl (okV.int rfl (by omega) (by omega)) dX5_hold_294 (fun w_26 H locs hw u => ?_)
            have hM := hM.up1 u (by decide)
            have f_a0_X5_0 := u.1 _ _ _ _ f_a0_X5_0 (Or.inr (Or.inr (by decide)))
            have f_a0_X5_1 := u.1 _ _ _ _ f_a0_X5_1 (Or.inr (Or.inr (by decide)))
            have f_a0_X5_6 := u.1 _ _ _ _ f_a0_X5_6 (Or.inr (Or.inr (by decide)))
            have f_a1_X0_3 := u.1 _ _ _ _ f_a1_X0_3 (Or.inr (Or.inl (by decide)))
            have f_a2_X8_0 := u.1 _ _ _ _ f_a2_X8_0 (Or.inr (Or.inl (by decide)))
            have f_a2_X8_4 := u.1 _ _ _ _ f_a2_X8_4 (Or.inr (Or.inl (by decide)))
            have f_a0_X5_5 := u.2.2
            rw [hQ]
            refine W.widen (k := 0) (n := 0) (Nat.le_refl _) (Nat.le_refl _) ?_
            exact W.vret hx hb hr (fun t ht hW => ⟨⟨w_26, rfl, ⟨hw.2.2.2.2, hM⟩, by rw [ht]; exact hw.2.1, va_K.moved hW.alike hw.1, hw.2.2.1⟩, hw.2.2.2.1.F ht⟩) hw.2.2.2.1.2.2 dX5_hold_297
          · simp only [fa_lt, fa_le, fa_eq] at c_229
            refine lv_aload_n hx hb dX5_hold_232 rfl (lv_at hl 0 rfl) ?_
            refine lv_iload hx hb dX5_hold_233 (lv_at hl 4 rfl) ?_
            refine lv_aload_n hx hb dX5_hold_235 rfl (lv_at hl 0 rfl) ?_
            refine t_getk (ci := 5) (C := RX5) (T := TX5) (N := 8) hx hb hts iX5 hown hw rfl 1 (by decide) (hts _ tw_345) (fun _ h9 => h9) dX5_hold_236 f_a0_X5_1 ?_
            refine t_calli (va_runV (As := [.int p223_l4, .int v27]) (rest := []) ⟨hx, hb, hml, hown, hts⟩ (t_X5_mostWanted l dC dI tys κ B w223 hw.2.2.2.2 a0 k_a0 p223_l4 (by omega) (by omega) v27 H.size) (cwV 2 hts (gUV tw_796 tw_798 ts_1_6 tw_10 tw_799) rfl rfl rfl (by decide +kernel) ⟨(Nat.le_of_ble_eq_true rfl), (Nat.le_of_ble_eq_true rfl)⟩) ⟨cPre.blind, t_recv hw (ci := 5) k_a0 rfl rfl, cPre.use hw.2.1 hw.1 hw.2.2.1 hE⟩ rfl rfl hl.1 rfl (lv_room (Nat.le_of_ble_eq_true rfl)) dX5_hold_239 ⟨(Nat.le_of_ble_eq_true rfl), (Nat.le_of_ble_eq_true rfl)⟩) hw hA (fun _ _ h => h.2.2.1) (fun v239 w_27 H locs hp hw => ?_)
            obtain ⟨l_v239, h_v239, _, hm⟩ := hp
            have hM := hM.trans hm (by decide) (by decide)
            have f_a0_X5_0 := hm.1 _ _ _ _ f_a0_X5_0 (by decide)
            have f_a0_X5_1 := hm.1 _ _ _ _ f_a0_X5_1 (by decide)
            have f_a0_X5_6 := hm.1 _ _ _ _ f_a0_X5_6 (by decide)
            have f_a1_X0_3 := hm.1 _ _ _ _ f_a1_X0_3 (by decide)
            have f_a2_X8_0 := hm.1 _ _ _ _ f_a2_X8_0 (by decide)
            have f_a2_X8_4 := hm.1 _ _ _ _ f_a2_X8_4 (by decide)
            refine lv_istore (lv' := [(5, .int v239), (0, .ref a0), (1, .ref a1), (2, .ref a2), (3, .ref a3), (4, .int p223_l4)]) hx hb dX5_hold_242 hl (by decide) rfl (fun ls hl => ?_)
            refine lv_aload_n hx hb dX5_hold_244 rfl (lv_at hl 1 rfl) ?_
            refine t_getr (k1 := 34) (ci := 5) (C := RX5) (T := TX5) (N := 8) hx hb hts iX5 hown hw k_a0 rfl rfl rfl 3 (by decide) (hts _ tw_347) (fun _ h9 => h9) dX5_hold_245 rfl (fun v245 k_v245 f_a0_X5_3 => ?_)
            refine lv_iload hx hb dX5_hold_248 (lv_at hl 5 rfl) ?_
            refine lv_iload hx hb dX5_hold_250 (lv_at hl 0 rfl) ?_
            refine lv_iconst (v := (-1)) hx hb dX5_hold_252 (by decide) ?_
            have J280 : ∀ (H : Heap) (locs : List Loc) (ls : Array Slot) (w280 : va_W) (p280_s0 : Int32), tW (dC, dI) tys κ B A s w280 H locs → Sm [(5, 0), (5, 1), (5, 5)] [33, 34, 35, 36, 42] κ ws w280 → (-1) ≤ p280_s0.toInt → p280_s0.toInt ≤ 5 → fld w280 a0 5 0 (.int v2) → fld w280 a0 5 1 (.int v27) → fld w280 a0 5 3 (.ref v245) → fld w280 a0 5 6 (.ref v32) → fld w280 a1 0 3 (.int v2) → fld w280 a2 8 0 (.int v38) → fld w280 a2 8 4 (.int v50) → lv_has ls 7 [(0, .ref a0), (1, .ref a1), (2, .ref a2), (3, .ref a3), (4, .int p223_l4), (5, .int v239)] → W p l e (headSpec (ws_u yX5_hold cX5_hold 7 none) ({ frames := 3, cells := 0, slots := 0, locals := 72 })).room s m ([.ref a0, .ref a1, .ref a2, va_rf (some a3)] : List Value).toArray below meth c H locs 0 0 QQ (F0 m 280 ls [.int p280_s0, .int p223_l4, .ref v245]) := by
              intro H locs ls w280 p280_s0 hw hM l_p280_s0 h_p280_s0 f_a0_X5_0 f_a0_X5_1 f_a0_X5_3 f_a0_X5_6 f_a1_X0_3 f_a2_X8_0 f_a2_X8_4 hl
              refine t_iast hx hb hw k_v245 rfl rfl (by omega) (show p223_l4.toInt < 6 by omega) (show (-1) ≤ p280_s0.toInt by omega) (show p280_s0.toInt ≤ 5 by omega) dX5_hold_280 (fun w_28 H locs hw u => ?_)
              have hM := hM.up3 u k_v245 (by decide)
              have f_a0_X5_0 := u.1 _ _ _ _ f_a0_X5_0
              have f_a0_X5_1 := u.1 _ _ _ _ f_a0_X5_1
              have f_a0_X5_3 := u.1 _ _ _ _ f_a0_X5_3
              have f_a0_X5_6 := u.1 _ _ _ _ f_a0_X5_6
              have f_a1_X0_3 := u.1 _ _ _ _ f_a1_X0_3
              have f_a2_X8_0 := u.1 _ _ _ _ f_a2_X8_0
              have f_a2_X8_4 := u.1 _ _ _ _ f_a2_X8_4
              obtain ⟨v281, e_v281⟩ : ∃ y : Int32, y = p223_l4 + 1 := ⟨_, rfl⟩
              refine lv_iinc (v := v281) (lv' := [(4, .int v281), (0, .ref a0), (1, .ref a1), (2, .ref a2), (3, .ref a3), (5, .int v239)]) hx hb dX5_hold_281 hl (k := 4) rfl e_v281.symm (by decide) rfl (fun ls hl => ?_)
              have e_v281 : v281.toInt = p223_l4.toInt + 1 := ad_i e_v281 rfl li_1 (by omega) (by omega)
              refine lv_goto (tgt := 223) hx hb dX5_hold_284 (by decide) ?_
              exact ih_223 _ _ _ _ (by omega) ⟨w_28, v281, hw, hM, (by omega), (by omega), f_a0_X5_0, f_a0_X5_1, f_a0_X5_6, f_a1_X0_3, f_a2_X8_0, f_a2_X8_4, (lv_sub hl [1, 2, 3, 4, 0] rfl), rfl⟩
            have J279 : ∀ (H : Heap) (locs : List Loc) (ls : Array Slot) (w279 : va_W), tW (dC, dI) tys κ B A s w279 H locs → Sm [(5, 0), (5, 1), (5, 5)] [33, 34, 35, 36, 42] κ ws w279 → fld w279 a0 5 0 (.int v2) → fld w279 a0 5 1 (.int v27) → fld w279 a0 5 3 (.ref v245) → fld w279 a0 5 6 (.ref v32) → fld w279 a1 0 3 (.int v2) → fld w279 a2 8 0 (.int v38) → fld w279 a2 8 4 (.int v50) → lv_has ls 7 [(0, .ref a0), (1, .ref a1), (2, .ref a2), (3, .ref a3), (4, .int p223_l4), (5, .int v239)] → W p l e (headSpec (ws_u yX5_hold cX5_hold 7 none) ({ frames := 3, cells := 0, slots := 0, locals := 72 })).room s m ([.ref a0, .ref a1, .ref a2, va_rf (some a3)] : List Value).toArray below meth c H locs 0 0 QQ (F0 m 279 ls [.int p223_l4, .ref v245]) := by
              intro H locs ls w279 hw hM f_a0_X5_0 f_a0_X5_1 f_a0_X5_3 f_a0_X5_6 f_a1_X0_3 f_a2_X8_0 f_a2_X8_4 hl
              refine lv_iconst (v := (-1)) hx hb dX5_hold_279 (by decide) ?_
              exact J280 _ _ _ w279 (-1) hw hM (by decide) (by decide) f_a0_X5_0 f_a0_X5_1 f_a0_X5_3 f_a0_X5_6 f_a1_X0_3 f_a2_X8_0 f_a2_X8_4 (lv_sub hl [0, 1, 2, 3, 4, 5] rfl)
            refine lv_icmp_eq (tgt := 279) hx hb dX5_hold_253 (by decide) (fun c_253 => ?_) (fun c_253 => ?_)
            · simp only [fa_lt, fa_le, fa_eq, li_m1] at c_253
              exact J279 _ _ _ w_27 hw hM f_a0_X5_0 f_a0_X5_1 f_a0_X5_3 f_a0_X5_6 f_a1_X0_3 f_a2_X8_0 f_a2_X8_4 (lv_sub hl [1, 2, 3, 4, 5, 0] rfl)
            · simp only [fa_lt, fa_le, fa_eq, li_m1] at c_253
              refine lv_aload_n hx hb dX5_hold_256 rfl (lv_at hl 1 rfl) ?_
              refine t_getr (k1 := 33) (ci := 5) (C := RX5) (T := TX5) (N := 8) hx hb hts iX5 hown hw k_a0 rfl rfl rfl 2 (by decide) (hts _ tw_346) (fun _ h9 => h9) dX5_hold_257 rfl (fun v257 k_v257 f_a0_X5_2 => ?_)
              refine lv_iload hx hb dX5_hold_260 (lv_at hl 5 rfl) ?_
              refine lv_bipush (v := 6) hx hb dX5_hold_262 (by decide) ?_
              refine lv_imul hx hb dX5_hold_264 ?_
              refine lv_topi (fun v264 e_v264 => ?_)
              have e_v264 : v264.toInt = p223_l4.toInt * 6 := ml_i e_v264 rfl li_6 (by omega) (by omega)
              refine lv_iload hx hb dX5_hold_265 (lv_at hl 0 rfl) ?_
              refine lv_iadd hx hb dX5_hold_267 ?_
              refine lv_topi (fun v267 e_v267 => ?_)
              have e_v267 : v267.toInt = v264.toInt + v239.toInt := ad_i e_v267 rfl rfl (by omega) (by omega)
              refine t_lald hx hb hw k_v257 rfl rfl (by omega) (show v267.toInt < 36 by omega) dX5_hold_268 (fun v268 => ?_)
              refine lv_lconst (v := 0) hx hb dX5_hold_269 (by decide) ?_
              obtain ⟨v269, e_v269⟩ : ∃ y : Int64, y = 0 := ⟨_, rfl⟩
              refine W.eq (g2 := F0 m 270 ls [.long v269, .long v268, .int p223_l4, .ref v245]) (by rw [e_v269]) ?_
              have t_v269 : v269.toInt = 0 := by rw [e_v269]; decide
              refine W.lcmp hx hb dX5_hold_270 ?_
              refine lv_topi (fun v270 e_v270 => ?_)
              have l_v270 := i32_lo v270
              have h_v270 := i32_hi v270
              have g_v270 := lgc e_v270
              refine lv_if_le (tgt := 279) hx hb dX5_hold_271 (by decide) (fun c_271 => ?_) (fun c_271 => ?_)
              · simp only [fa_lt, fa_le, fa_eq, li_0] at c_271
                exact J279 _ _ _ w_27 hw hM f_a0_X5_0 f_a0_X5_1 f_a0_X5_3 f_a0_X5_6 f_a1_X0_3 f_a2_X8_0 f_a2_X8_4 (lv_sub hl [1, 2, 3, 4, 5, 0] rfl)
              · simp only [fa_lt, fa_le, fa_eq, li_0] at c_271
                refine lv_iload hx hb dX5_hold_274 (lv_at hl 0 rfl) ?_
                refine lv_goto (tgt := 280) hx hb dX5_hold_276 (by decide) ?_
                exact J280 _ _ _ w_27 v239 hw hM (by omega) (by omega) f_a0_X5_0 f_a0_X5_1 f_a0_X5_3 f_a0_X5_6 f_a1_X0_3 f_a2_X8_0 f_a2_X8_4 (lv_sub hl [1, 2, 3, 4, 5, 0] rfl)
        exact J223 _ _ _ _ ⟨w73, 0, hw, hM, (by decide), (by decide), f_a0_X5_0, f_a0_X5_1, f_a0_X5_6, f_a1_X0_3, f_a2_X8_0, f_a2_X8_4, (lv_sub hl [1, 2, 3, 4, 0] rfl), rfl⟩
      · simp only [fa_lt, fa_le, fa_eq] at c_79
        refine lv_aload_n hx hb dX5_hold_82 rfl (lv_at hl 0 rfl) ?_
        refine t_getk (ci := 5) (C := RX5) (T := TX5) (N := 8) hx hb hts iX5 hown hw rfl 1 (by decide) (hts _ tw_345) (fun _ h9 => h9) dX5_hold_83 f_a0_X5_1 ?_
        refine lv_iload hx hb dX5_hold_86 (lv_at hl 4 rfl) ?_
        refine t_calli (va_runS (As := [.int v27, .int p73_l4]) (rest := []) ⟨hx, hb, hml, hown, hts⟩ (t_X5_isIn l dC dI tys κ B w73 hw.2.2.2.2 v27 p73_l4 (by omega) (by omega) H.size) (va_cwS 2 hts (gUS tw_778 tw_779 tw_10 tw_780) rfl rfl rfl (by decide +kernel) ⟨(Nat.le_of_ble_eq_true rfl), (Nat.le_of_ble_eq_true rfl)⟩) ⟨cPre.blind, cPre.use hw.2.1 hw.1 hw.2.2.1 hE⟩ rfl rfl hl.1 rfl (lv_room (Nat.le_of_ble_eq_true rfl)) dX5_hold_88 ⟨(Nat.le_of_ble_eq_true rfl), (Nat.le_of_ble_eq_true rfl)⟩) hw hA (fun _ _ h => h.2.2.1) (fun v88 w_29 H locs hp hw => ?_)
        obtain ⟨l_v88, h_v88, _, hm⟩ := hp
        have hM := hM.trans hm (by decide) (by decide)
        have f_a0_X5_0 := hm.1 _ _ _ _ f_a0_X5_0 (by decide)
        have f_a0_X5_1 := hm.1 _ _ _ _ f_a0_X5_1 (by decide)
        have f_a0_X5_6 := hm.1 _ _ _ _ f_a0_X5_6 (by decide)
        have f_a1_X0_3 := hm.1 _ _ _ _ f_a1_X0_3 (by decide)
        have f_a2_X8_0 := hm.1 _ _ _ _ f_a2_X8_0 (by decide)
        have f_a2_X8_4 := hm.1 _ _ _ _ f_a2_X8_4 (by decide)
        have J214 : ∀ (H : Heap) (locs : List Loc) (ls : Array Slot) (w214 : va_W), tW (dC, dI) tys κ B A s w214 H locs → Sm [(5, 0), (5, 1), (5, 5)] [33, 34, 35, 36, 42] κ ws w214 → fld w214 a0 5 0 (.int v2) → fld w214 a0 5 1 (.int v27) → fld w214 a0 5 6 (.ref v32) → fld w214 a1 0 3 (.int v2) → fld w214 a2 8 0 (.int v38) → fld w214 a2 8 4 (.int v50) → lv_has ls 7 [(0, .ref a0), (1, .ref a1), (2, .ref a2), (3, .ref a3), (4, .int p73_l4)] → W p l e (headSpec (ws_u yX5_hold cX5_hold 7 none) ({ frames := 3, cells := 0, slots := 0, locals := 72 })).room s m ([.ref a0, .ref a1, .ref a2, va_rf (some a3)] : List Value).toArray below meth c H locs 0 0 QQ (F0 m 214 ls []) := by
          intro H locs ls w214 hw hM f_a0_X5_0 f_a0_X5_1 f_a0_X5_6 f_a1_X0_3 f_a2_X8_0 f_a2_X8_4 hl
          obtain ⟨v214, e_v214⟩ : ∃ y : Int32, y = p73_l4 + 1 := ⟨_, rfl⟩
          refine lv_iinc (v := v214) (lv' := [(4, .int v214), (0, .ref a0), (1, .ref a1), (2, .ref a2), (3, .ref a3)]) hx hb dX5_hold_214 hl (k := 4) rfl e_v214.symm (by decide) rfl (fun ls hl => ?_)
          have e_v214 : v214.toInt = p73_l4.toInt + 1 := ad_i e_v214 rfl li_1 (by omega) (by omega)
          refine lv_goto (tgt := 73) hx hb dX5_hold_217 (by decide) ?_
          exact ih_73 _ _ _ _ (by omega) ⟨w214, v214, hw, hM, (by omega), (by omega), f_a0_X5_0, f_a0_X5_1, f_a0_X5_6, f_a1_X0_3, f_a2_X8_0, f_a2_X8_4, (lv_sub hl [1, 2, 3, 4, 0] rfl), rfl⟩
        refine lv_if_ne (tgt := 97) hx hb dX5_hold_91 (by decide) (fun c_91 => ?_) (fun c_91 => ?_)
        · simp only [fa_lt, fa_le, fa_eq, li_0] at c_91
          refine lv_aload_n hx hb dX5_hold_97 rfl (lv_at hl 0 rfl) ?_
          refine lv_iload hx hb dX5_hold_98 (lv_at hl 4 rfl) ?_
          refine lv_aload_n hx hb dX5_hold_100 rfl (lv_at hl 1 rfl) ?_
          refine lv_aload_n hx hb dX5_hold_101 rfl (lv_at hl 2 rfl) ?_
          refine t_callv (va_runV (As := [.int p73_l4, .ref a1, .ref a2]) (rest := []) ⟨hx, hb, hml, hown, hts⟩ (t_X5_setWordsOf l dC dI tys κ B w_29 hw.2.2.2.2 a0 k_a0 p73_l4 (by omega) (by omega) a1 k_a1 a2 k_a2 H.size) (cwV 3 hts (gUV tw_781 tw_783 ts_1_4 tw_10 tw_784) rfl rfl rfl (by decide +kernel) ⟨(Nat.le_of_ble_eq_true rfl), (Nat.le_of_ble_eq_true rfl)⟩) ⟨cPre.blind, t_recv hw (ci := 5) k_a0 rfl rfl, cPre.use hw.2.1 hw.1 hw.2.2.1 hE⟩ rfl rfl hl.1 rfl (lv_room (Nat.le_of_ble_eq_true rfl)) dX5_hold_102 ⟨(Nat.le_of_ble_eq_true rfl), (Nat.le_of_ble_eq_true rfl)⟩) hw hA (fun _ h => h.1) (fun w_30 H locs hp hw => ?_)
          obtain ⟨_, hm⟩ := hp
          have hM := hM.trans hm (by decide) (by decide)
          have f_a0_X5_0 := hm.1 _ _ _ _ f_a0_X5_0 (by decide)
          have f_a0_X5_1 := hm.1 _ _ _ _ f_a0_X5_1 (by decide)
          have f_a0_X5_6 := hm.1 _ _ _ _ f_a0_X5_6 (by decide)
          have f_a1_X0_3 := hm.1 _ _ _ _ f_a1_X0_3 (by decide)
          have f_a2_X8_0 := hm.1 _ _ _ _ f_a2_X8_0 (by decide)
          have f_a2_X8_4 := hm.1 _ _ _ _ f_a2_X8_4 (by decide)
          refine lv_iconst (v := 0) hx hb dX5_hold_105 (by decide) ?_
          refine lv_istore (lv' := [(5, .int 0), (0, .ref a0), (1, .ref a1), (2, .ref a2), (3, .ref a3), (4, .int p73_l4)]) hx hb dX5_hold_106 hl (by decide) rfl (fun ls hl => ?_)
          have J108 : ∀ (n : Nat) (H : Heap) (locs : List Loc) (ls : Array Slot), (∃ (w108 : va_W) (p108_l5 : Int32), tW (dC, dI) tys κ B A s w108 H locs ∧ Sm [(5, 0), (5, 1), (5, 5)] [33, 34, 35, 36, 42] κ ws w108 ∧ 0 ≤ p108_l5.toInt ∧ p108_l5.toInt ≤ 6 ∧ fld w108 a0 5 0 (.int v2) ∧ fld w108 a0 5 1 (.int v27) ∧ fld w108 a0 5 6 (.ref v32) ∧ fld w108 a1 0 3 (.int v2) ∧ fld w108 a2 8 0 (.int v38) ∧ fld w108 a2 8 4 (.int v50) ∧ lv_has ls 7 [(0, .ref a0), (1, .ref a1), (2, .ref a2), (3, .ref a3), (4, .int p73_l4), (5, .int p108_l5)] ∧ (6 - p108_l5.toInt).toNat = n) → W p l e (headSpec (ws_u yX5_hold cX5_hold 7 none) ({ frames := 3, cells := 0, slots := 0, locals := 72 })).room s m ([.ref a0, .ref a1, .ref a2, va_rf (some a3)] : List Value).toArray below meth c H locs 0 0 QQ (F0 m 108 ls []) := by
            refine loopT _ ?_
            intro n_108 H locs ls hI ih_108
            obtain ⟨w108, p108_l5, hw, hM, l_p108_l5, h_p108_l5, f_a0_X5_0, f_a0_X5_1, f_a0_X5_6, f_a1_X0_3, f_a2_X8_0, f_a2_X8_4, hl, hn_108⟩ := hI
            refine lv_iload hx hb dX5_hold_108 (lv_at hl 5 rfl) ?_
            refine lv_aload_n hx hb dX5_hold_110 rfl (lv_at hl 0 rfl) ?_
            refine t_getk (ci := 5) (C := RX5) (T := TX5) (N := 8) hx hb hts iX5 hown hw rfl 0 (by decide) (hts _ tw_344) (fun _ h9 => h9) dX5_hold_111 f_a0_X5_0 ?_
            refine lv_icmp_ge (tgt := 214) hx hb dX5_hold_114 (by decide) (fun c_114 => ?_) (fun c_114 => ?_)
            · simp only [fa_lt, fa_le, fa_eq] at c_114
              exact J214 _ _ _ w108 hw hM f_a0_X5_0 f_a0_X5_1 f_a0_X5_6 f_a1_X0_3 f_a2_X8_0 f_a2_X8_4 (lv_sub hl [0, 1, 2, 3, 4] rfl)
            · simp only [fa_lt, fa_le, fa_eq] at c_114
              refine lv_aload_n hx hb dX5_hold_117 rfl (lv_at hl 1 rfl) ?_
              refine t_getr (k1 := 23) (ci := 0) (C := RX0) (T := TX0) (N := 16) hx hb hts iX0 hown hw k_a1 rfl rfl rfl 9 (by decide) (hts _ tw_102) (fun _ h9 => h9) dX5_hold_118 rfl (fun v118 k_v118 f_a1_X0_9 => ?_)
              refine lv_iload hx hb dX5_hold_121 (lv_at hl 5 rfl) ?_
              refine lv_bipush (v := 6) hx hb dX5_hold_123 (by decide) ?_
              refine lv_imul hx hb dX5_hold_125 ?_
              refine lv_topi (fun v125 e_v125 => ?_)
              have e_v125 : v125.toInt = p108_l5.toInt * 6 := ml_i e_v125 rfl li_6 (by omega) (by omega)
              refine lv_iload hx hb dX5_hold_126 (lv_at hl 4 rfl) ?_
              refine lv_iadd hx hb dX5_hold_128 ?_
              refine lv_topi (fun v128 e_v128 => ?_)
              have e_v128 : v128.toInt = v125.toInt + p73_l4.toInt := ad_i e_v128 rfl rfl (by omega) (by omega)
              refine t_iald hx hb hw k_v118 rfl rfl (by omega) (show v128.toInt < 36 by omega) dX5_hold_129 (fun v129 r_v129 s_v129 q_v129 => ?_)
              have l_v129 := i32_lo v129
              have h_v129 := i32_hi v129
              refine lv_istore (lv' := [(6, .int v129), (0, .ref a0), (1, .ref a1), (2, .ref a2), (3, .ref a3), (4, .int p73_l4), (5, .int p108_l5)]) hx hb dX5_hold_130 hl (by decide) rfl (fun ls hl => ?_)
              refine lv_aload_n hx hb dX5_hold_132 rfl (lv_at hl 1 rfl) ?_
              refine t_getk (ci := 5) (C := RX5) (T := TX5) (N := 8) hx hb hts iX5 hown hw rfl 6 (by decide) (hts _ tw_354) (fun _ h9 => h9) dX5_hold_133 f_a0_X5_6 ?_
              refine lv_iconst (v := 0) hx hb dX5_hold_136 (by decide) ?_
              refine lv_iload hx hb dX5_hold_137 (lv_at hl 6 rfl) ?_
              refine lv_i2l hx hb dX5_hold_139 rfl ?_
              refine lv_topl (fun v139 e_v139 => ?_)
              have t_v139 : v139.toInt = p108_l5.toInt := by rw [e_v139, Int32.toInt_toInt64]
              refine t_last hx hb hw k_v32 rfl rfl (by decide) (by decide) dX5_hold_140 (fun w_31 H locs y hw u => ?_)
              have hM := hM.up2 u k_v32 (by decide)
              have f_a0_X5_0 := u.1 _ _ _ _ f_a0_X5_0
              have f_a0_X5_1 := u.1 _ _ _ _ f_a0_X5_1
              have f_a0_X5_6 := u.1 _ _ _ _ f_a0_X5_6
              have f_a1_X0_3 := u.1 _ _ _ _ f_a1_X0_3
              have f_a2_X8_0 := u.1 _ _ _ _ f_a2_X8_0
              have f_a2_X8_4 := u.1 _ _ _ _ f_a2_X8_4
              have f_a1_X0_9 := u.1 _ _ _ _ f_a1_X0_9
              refine lv_aload_n hx hb dX5_hold_141 rfl (lv_at hl 1 rfl) ?_
              refine t_getk (ci := 5) (C := RX5) (T := TX5) (N := 8) hx hb hts iX5 hown hw rfl 6 (by decide) (hts _ tw_354) (fun _ h9 => h9) dX5_hold_142 f_a0_X5_6 ?_
              refine lv_iconst (v := 4) hx hb dX5_hold_145 (by decide) ?_
              refine lv_iload hx hb dX5_hold_146 (lv_at hl 0 rfl) ?_
              refine lv_i2l hx hb dX5_hold_148 rfl ?_
              refine lv_topl (fun v148 e_v148 => ?_)
              have t_v148 : v148.toInt = v129.toInt := by rw [e_v148, Int32.toInt_toInt64]
              refine t_last hx hb hw k_v32 rfl rfl (by decide) (by decide) dX5_hold_149 (fun w_32 H locs y hw u => ?_)
              have hM := hM.up2 u k_v32 (by decide)
              have f_a0_X5_0 := u.1 _ _ _ _ f_a0_X5_0
              have f_a0_X5_1 := u.1 _ _ _ _ f_a0_X5_1
              have f_a0_X5_6 := u.1 _ _ _ _ f_a0_X5_6
              have f_a1_X0_3 := u.1 _ _ _ _ f_a1_X0_3
              have f_a2_X8_0 := u.1 _ _ _ _ f_a2_X8_0
              have f_a2_X8_4 := u.1 _ _ _ _ f_a2_X8_4
              have f_a1_X0_9 := u.1 _ _ _ _ f_a1_X0_9
              refine lv_aload_n hx hb dX5_hold_150 rfl (lv_at hl 1 rfl) ?_
              refine t_getk (ci := 5) (C := RX5) (T := TX5) (N := 8) hx hb hts iX5 hown hw rfl 6 (by decide) (hts _ tw_354) (fun _ h9 => h9) dX5_hold_151 f_a0_X5_6 ?_
              refine lv_bipush (v := 7) hx hb dX5_hold_154 (by decide) ?_
              refine lv_iload hx hb dX5_hold_156 (lv_at hl 6 rfl) ?_
              refine lv_iload hx hb dX5_hold_158 (lv_at hl 5 rfl) ?_
              have J168 : ∀ (H : Heap) (locs : List Loc) (ls : Array Slot) (w168 : va_W) (p168_s0 : Int64), tW (dC, dI) tys κ B A s w168 H locs → Sm [(5, 0), (5, 1), (5, 5)] [33, 34, 35, 36, 42] κ ws w168 → fld w168 a0 5 0 (.int v2) → fld w168 a0 5 1 (.int v27) → fld w168 a0 5 6 (.ref v32) → fld w168 a1 0 3 (.int v2) → fld w168 a1 0 9 (.ref v118) → fld w168 a2 8 0 (.int v38) → fld w168 a2 8 4 (.int v50) → lv_has ls 7 [(0, .ref a0), (1, .ref a1), (2, .ref a2), (3, .ref a3), (4, .int p73_l4), (5, .int p108_l5), (6, .int v129)] → W p l e (headSpec (ws_u yX5_hold cX5_hold 7 none) ({ frames := 3, cells := 0, slots := 0, locals := 72 })).room s m ([.ref a0, .ref a1, .ref a2, va_rf (some a3)] : List Value).toArray below meth c H locs 0 0 QQ (F0 m 168 ls [.long p168_s0, .int 7, .ref v32]) := by
                intro H locs ls w168 p168_s0 hw hM f_a0_X5_0 f_a0_X5_1 f_a0_X5_6 f_a1_X0_3 f_a1_X0_9 f_a2_X8_0 f_a2_X8_4 hl
                refine t_last hx hb hw k_v32 rfl rfl (by decide) (by decide) dX5_hold_168 (fun w_33 H locs y hw u => ?_)
                have hM := hM.up2 u k_v32 (by decide)
                have f_a0_X5_0 := u.1 _ _ _ _ f_a0_X5_0
                have f_a0_X5_1 := u.1 _ _ _ _ f_a0_X5_1
                have f_a0_X5_6 := u.1 _ _ _ _ f_a0_X5_6
                have f_a1_X0_3 := u.1 _ _ _ _ f_a1_X0_3
                have f_a1_X0_9 := u.1 _ _ _ _ f_a1_X0_9
                have f_a2_X8_0 := u.1 _ _ _ _ f_a2_X8_0
                have f_a2_X8_4 := u.1 _ _ _ _ f_a2_X8_4
                refine lv_aload_n hx hb dX5_hold_169 rfl (lv_at hl 0 rfl) ?_
                refine t_getr (k1 := 33) (ci := 5) (C := RX5) (T := TX5) (N := 8) hx hb hts iX5 hown hw k_a0 rfl rfl rfl 2 (by decide) (hts _ tw_346) (fun _ h9 => h9) dX5_hold_170 rfl (fun v170 k_v170 f_a0_X5_2 => ?_)
                refine lv_iload hx hb dX5_hold_173 (lv_at hl 5 rfl) ?_
                refine lv_bipush (v := 6) hx hb dX5_hold_175 (by decide) ?_
                refine lv_imul hx hb dX5_hold_177 ?_
                refine lv_topi (fun v177 e_v177 => ?_)
                have e_v177 : v177.toInt = p108_l5.toInt * 6 := ml_i e_v177 rfl li_6 (by omega) (by omega)
                refine lv_iload hx hb dX5_hold_178 (lv_at hl 4 rfl) ?_
                refine lv_iadd hx hb dX5_hold_180 ?_
                refine lv_topi (fun v180 e_v180 => ?_)
                have e_v180 : v180.toInt = v177.toInt + p73_l4.toInt := ad_i e_v180 rfl rfl (by omega) (by omega)
                refine lv_aload_n hx hb dX5_hold_181 rfl (lv_at hl 3 rfl) ?_
                have J207 : ∀ (H : Heap) (locs : List Loc) (ls : Array Slot) (w207 : va_W) (p207_s0 : Int64), tW (dC, dI) tys κ B A s w207 H locs → Sm [(5, 0), (5, 1), (5, 5)] [33, 34, 35, 36, 42] κ ws w207 → fld w207 a0 5 0 (.int v2) → fld w207 a0 5 1 (.int v27) → fld w207 a0 5 2 (.ref v170) → fld w207 a0 5 6 (.ref v32) → fld w207 a1 0 3 (.int v2) → fld w207 a1 0 9 (.ref v118) → fld w207 a2 8 0 (.int v38) → fld w207 a2 8 4 (.int v50) → lv_has ls 7 [(0, .ref a0), (1, .ref a1), (2, .ref a2), (3, .ref a3), (4, .int p73_l4), (5, .int p108_l5), (6, .int v129)] → W p l e (headSpec (ws_u yX5_hold cX5_hold 7 none) ({ frames := 3, cells := 0, slots := 0, locals := 72 })).room s m ([.ref a0, .ref a1, .ref a2, va_rf (some a3)] : List Value).toArray below meth c H locs 0 0 QQ (F0 m 207 ls [.long p207_s0, .int v180, .ref v170]) := by
                  intro H locs ls w207 p207_s0 hw hM f_a0_X5_0 f_a0_X5_1 f_a0_X5_2 f_a0_X5_6 f_a1_X0_3 f_a1_X0_9 f_a2_X8_0 f_a2_X8_4 hl
                  refine t_last hx hb hw k_v170 rfl rfl (by omega) (show v180.toInt < 36 by omega) dX5_hold_207 (fun w_34 H locs y hw u => ?_)
                  have hM := hM.up2 u k_v170 (by decide)
                  have f_a0_X5_0 := u.1 _ _ _ _ f_a0_X5_0
                  have f_a0_X5_1 := u.1 _ _ _ _ f_a0_X5_1
                  have f_a0_X5_2 := u.1 _ _ _ _ f_a0_X5_2
                  have f_a0_X5_6 := u.1 _ _ _ _ f_a0_X5_6
                  have f_a1_X0_3 := u.1 _ _ _ _ f_a1_X0_3
                  have f_a1_X0_9 := u.1 _ _ _ _ f_a1_X0_9
                  have f_a2_X8_0 := u.1 _ _ _ _ f_a2_X8_0
                  have f_a2_X8_4 := u.1 _ _ _ _ f_a2_X8_4
                  obtain ⟨v208, e_v208⟩ : ∃ y : Int32, y = p108_l5 + 1 := ⟨_, rfl⟩
                  refine lv_iinc (v := v208) (lv' := [(5, .int v208), (0, .ref a0), (1, .ref a1), (2, .ref a2), (3, .ref a3), (4, .int p73_l4), (6, .int v129)]) hx hb dX5_hold_208 hl (k := 5) rfl e_v208.symm (by decide) rfl (fun ls hl => ?_)
                  have e_v208 : v208.toInt = p108_l5.toInt + 1 := ad_i e_v208 rfl li_1 (by omega) (by omega)
                  refine lv_goto (tgt := 108) hx hb dX5_hold_211 (by decide) ?_
                  exact ih_108 _ _ _ _ (by omega) ⟨w_34, v208, hw, hM, (by omega), (by omega), f_a0_X5_0, f_a0_X5_1, f_a0_X5_6, f_a1_X0_3, f_a2_X8_0, f_a2_X8_4, (lv_sub hl [1, 2, 3, 4, 5, 0] rfl), rfl⟩
                refine lv_ifnonnull (tgt := 199) hx hb dX5_hold_182 (by decide) ?_
                refine lv_aload_n hx hb dX5_hold_199 rfl (lv_at hl 3 rfl) ?_
                refine lv_aload_n hx hb dX5_hold_200 rfl (lv_at hl 0 rfl) ?_
                refine t_getk (ci := 5) (C := RX5) (T := TX5) (N := 8) hx hb hts iX5 hown hw rfl 6 (by decide) (hts _ tw_354) (fun _ h9 => h9) dX5_hold_201 f_a0_X5_6 ?_
                refine t_calll (va_runV (As := [.ref v32]) (rest := [.int v180, .ref v170]) ⟨hx, hb, hml, hown, hts⟩ (t_X6_want l dC dI tys κ B w_33 hw.2.2.2.2 a3 k_a3 v32 k_v32 H.size) (cwV 1 hts (gUV tw_785 tw_786 tw_787 tw_6 tw_788) rfl rfl rfl (by decide +kernel) ⟨(Nat.le_of_ble_eq_true rfl), (Nat.le_of_ble_eq_true rfl)⟩) ⟨cPre.blind, t_recv hw (ci := 6) k_a3 rfl rfl, cPre.use hw.2.1 hw.1 hw.2.2.1 hE⟩ rfl rfl hl.1 rfl (lv_room (Nat.le_of_ble_eq_true rfl)) dX5_hold_204 ⟨(Nat.le_of_ble_eq_true rfl), (Nat.le_of_ble_eq_true rfl)⟩) hw hA (fun _ _ h => h.1) (fun v204 w_35 H locs hp hw => ?_)
                obtain ⟨_, hm⟩ := hp
                have hM := hM.trans hm (by decide) (by decide)
                have f_a0_X5_0 := hm.1 _ _ _ _ f_a0_X5_0 (by decide)
                have f_a0_X5_1 := hm.1 _ _ _ _ f_a0_X5_1 (by decide)
                have f_a0_X5_6 := hm.1 _ _ _ _ f_a0_X5_6 (by decide)
                have f_a1_X0_3 := hm.1 _ _ _ _ f_a1_X0_3 (by decide)
                have f_a1_X0_9 := hm.1 _ _ _ _ f_a1_X0_9 (by decide)
                have f_a2_X8_0 := hm.1 _ _ _ _ f_a2_X8_0 (by decide)
                have f_a2_X8_4 := hm.1 _ _ _ _ f_a2_X8_4 (by decide)
                have f_a0_X5_2 := hm.1 _ _ _ _ f_a0_X5_2 (by decide)
                exact J207 _ _ _ w_35 v204 hw hM f_a0_X5_0 f_a0_X5_1 f_a0_X5_2 f_a0_X5_6 f_a1_X0_3 f_a1_X0_9 f_a2_X8_0 f_a2_X8_4 (lv_sub hl [0, 1, 2, 3, 4, 5, 6] rfl)
              refine lv_icmp_ne (tgt := 167) hx hb dX5_hold_160 (by decide) (fun c_160 => ?_) (fun c_160 => ?_)
              · simp only [fa_lt, fa_le, fa_eq] at c_160
                refine lv_lconst (v := 0) hx hb dX5_hold_167 (by decide) ?_
                obtain ⟨v167, e_v167⟩ : ∃ y : Int64, y = 0 := ⟨_, rfl⟩
                refine W.eq (g2 := F0 m 168 ls [.long v167, .int 7, .ref v32]) (by rw [e_v167]) ?_
                have t_v167 : v167.toInt = 0 := by rw [e_v167]; decide
                exact J168 _ _ _ w_32 v167 hw hM f_a0_X5_0 f_a0_X5_1 f_a0_X5_6 f_a1_X0_3 f_a1_X0_9 f_a2_X8_0 f_a2_X8_4 (lv_sub hl [1, 2, 3, 4, 5, 6, 0] rfl)
              · simp only [fa_lt, fa_le, fa_eq] at c_160
                refine lv_lconst (v := 1) hx hb dX5_hold_163 (by decide) ?_
                obtain ⟨v163, e_v163⟩ : ∃ y : Int64, y = 1 := ⟨_, rfl⟩
                refine W.eq (g2 := F0 m 164 ls [.long v163, .int 7, .ref v32]) (by rw [e_v163]) ?_
                have t_v163 : v163.toInt = 1 := by rw [e_v163]; decide
                refine lv_goto (tgt := 168) hx hb dX5_hold_164 (by decide) ?_
                exact J168 _ _ _ w_32 v163 hw hM f_a0_X5_0 f_a0_X5_1 f_a0_X5_6 f_a1_X0_3 f_a1_X0_9 f_a2_X8_0 f_a2_X8_4 (lv_sub hl [1, 2, 3, 4, 5, 6, 0] rfl)
          exact J108 _ _ _ _ ⟨w_30, 0, hw, hM, (by decide), (by decide), f_a0_X5_0, f_a0_X5_1, f_a0_X5_6, f_a1_X0_3, f_a2_X8_0, f_a2_X8_4, (lv_sub hl [1, 2, 3, 4, 5, 0] rfl), rfl⟩
        · simp only [fa_lt, fa_le, fa_eq, li_0] at c_91
          refine lv_goto (tgt := 214) hx hb dX5_hold_94 (by decide) ?_
          exact J214 _ _ _ w_29 hw hM f_a0_X5_0 f_a0_X5_1 f_a0_X5_6 f_a1_X0_3 f_a2_X8_0 f_a2_X8_4 (lv_sub hl [0, 1, 2, 3, 4] rfl)
    exact J73 _ _ _ _ ⟨w_24, 0, hw, hM, (by decide), (by decide), f_a0_X5_0, f_a0_X5_1, f_a0_X5_6, f_a1_X0_3, f_a2_X8_0, f_a2_X8_4, (lv_sub hl [1, 2, 3, 4, 0] rfl), rfl⟩
