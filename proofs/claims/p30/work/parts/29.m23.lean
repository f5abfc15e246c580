theorem ts_6_2 : Cond.selects "BoyBishopModel" ⟨"BoyBishopModel", "votesFor", "(I)I"⟩ ⟨"BoyBishopModel", "votesFor", "(I)I"⟩ ∈ gT := gT_in (List.mem_append_left _ (List.mem_map.mpr ⟨(⟨"BoyBishopModel", "votesFor", "(I)I"⟩, 38), (List.mem_append_right _ (List.mem_append_right _ (List.mem_append_right _ (List.mem_append_right _ (List.mem_append_right _ (List.mem_append_right _ (List.mem_append_left _ (List.mem_of_getElem? (i := 2) rfl)))))))), rfl⟩)) rfl
theorem ts_6_4 : Cond.selects "BoyBishopModel" ⟨"BoyBishopModel", "wants", "(II)J"⟩ ⟨"BoyBishopModel", "wants", "(II)J"⟩ ∈ gT := gT_in (List.mem_append_left _ (List.mem_map.mpr ⟨(⟨"BoyBishopModel", "wants", "(II)J"⟩, 38), (List.mem_append_right _ (List.mem_append_right _ (List.mem_append_right _ (List.mem_append_right _ (List.mem_append_right _ (List.mem_append_right _ (List.mem_append_left _ (List.mem_of_getElem? (i := 4) rfl)))))))), rfl⟩)) rfl
theorem ts_6_5 : Cond.selects "BoyBishopModel" ⟨"BoyBishopModel", "soundMany", "()I"⟩ ⟨"BoyBishopModel", "soundMany", "()I"⟩ ∈ gT := gT_in (List.mem_append_left _ (List.mem_map.mpr ⟨(⟨"BoyBishopModel", "soundMany", "()I"⟩, 38), (List.mem_append_right _ (List.mem_append_right _ (List.mem_append_right _ (List.mem_append_right _ (List.mem_append_right _ (List.mem_append_right _ (List.mem_append_left _ (List.mem_of_getElem? (i := 5) rfl)))))))), rfl⟩)) rfl
theorem ts_6_6 : Cond.selects "BoyBishopModel" ⟨"BoyBishopModel", "summedBy", "(I)J"⟩ ⟨"BoyBishopModel", "summedBy", "(I)J"⟩ ∈ gT := gT_in (List.mem_append_left _ (List.mem_map.mpr ⟨(⟨"BoyBishopModel", "summedBy", "(I)J"⟩, 38), (List.mem_append_right _ (List.mem_append_right _ (List.mem_append_right _ (List.mem_append_right _ (List.mem_append_right _ (List.mem_append_right _ (List.mem_append_left _ (List.mem_of_getElem? (i := 6) rfl)))))))), rfl⟩)) rfl
theorem ts_6_7 : Cond.selects "BoyBishopModel" ⟨"BoyBishopModel", "reckons", "(III)J"⟩ ⟨"BoyBishopModel", "reckons", "(III)J"⟩ ∈ gT := gT_in (List.mem_append_left _ (List.mem_map.mpr ⟨(⟨"BoyBishopModel", "reckons", "(III)J"⟩, 38), (List.mem_append_right _ (List.mem_append_right _ (List.mem_append_right _ (List.mem_append_right _ (List.mem_append_right _ (List.mem_append_right _ (List.mem_append_left _ (List.mem_of_getElem? (i := 7) rfl)))))))), rfl⟩)) rfl
theorem tw_1130 : (Jvm.Cond.fieldLink "BoyBishopModel" (20 : Nat) "BoyBishopModel" "clause" "[I") ∈ gT := gT_in (List.mem_append_right _ (List.mem_append_right _ (List.mem_append_right _ (List.mem_append_right _ (List.mem_append_right _ (List.mem_append_left _ (List.mem_of_getElem? (i := 170) rfl))))))) rfl
theorem tw_1131 : (Jvm.Cond.fieldLink "BoyBishopModel" (23 : Nat) "BoyBishopModel" "clauses" "[I") ∈ gT := gT_in (List.mem_append_right _ (List.mem_append_right _ (List.mem_append_right _ (List.mem_append_right _ (List.mem_append_right _ (List.mem_append_left _ (List.mem_of_getElem? (i := 171) rfl))))))) rfl
theorem tw_1144 : (Jvm.Cond.fieldLink "BoyBishopModel" (36 : Nat) "BoyBishopModel" "word" "[J") ∈ gT := gT_in (List.mem_append_right _ (List.mem_append_right _ (List.mem_append_right _ (List.mem_append_right _ (List.mem_append_right _ (List.mem_append_left _ (List.mem_of_getElem? (i := 184) rfl))))))) rfl
theorem tw_1146 : (Jvm.Cond.fieldLink "BoyBishopModel" (42 : Nat) "BoyBishopModel" "force" "I") ∈ gT := gT_in (List.mem_append_right _ (List.mem_append_right _ (List.mem_append_right _ (List.mem_append_right _ (List.mem_append_right _ (List.mem_append_left _ (List.mem_of_getElem? (i := 186) rfl))))))) rfl
theorem tw_1148 : (Jvm.Cond.fieldLink "BoyBishopModel" (46 : Nat) "BoyBishopModel" "vote" "[I") ∈ gT := gT_in (List.mem_append_right _ (List.mem_append_right _ (List.mem_append_right _ (List.mem_append_right _ (List.mem_append_right _ (List.mem_append_left _ (List.mem_of_getElem? (i := 188) rfl))))))) rfl
theorem tw_1513 : (Jvm.Cond.methodLink "BoyBishopModel" (343 : Nat) ({ cls := "BoyBishopModel", name := "votesFor", desc := "(I)I" } : Jvm.MethodName)) ∈ gT := gT_in (List.mem_append_right _ (List.mem_append_right _ (List.mem_append_right _ (List.mem_append_right _ (List.mem_append_right _ (List.mem_append_right _ (List.mem_append_right _ (List.mem_append_left _ (List.mem_of_getElem? (i := 73) rfl))))))))) rfl
theorem tw_1515 : (Jvm.Cond.instanceMethod ({ cls := "BoyBishopModel", name := "votesFor", desc := "(I)I" } : Jvm.MethodName)) ∈ gT := gT_in (List.mem_append_right _ (List.mem_append_right _ (List.mem_append_right _ (List.mem_append_right _ (List.mem_append_right _ (List.mem_append_right _ (List.mem_append_right _ (List.mem_append_left _ (List.mem_of_getElem? (i := 75) rfl))))))))) rfl
theorem tw_1516 : (Jvm.Cond.code ({ cls := "BoyBishopModel", name := "votesFor", desc := "(I)I" } : Jvm.MethodName) prog_14_method_71_code (8 : Nat) (Option.some Jvm.ClassFile.FieldType.int)) ∈ gT := gT_in (List.mem_append_right _ (List.mem_append_right _ (List.mem_append_right _ (List.mem_append_right _ (List.mem_append_right _ (List.mem_append_right _ (List.mem_append_right _ (List.mem_append_left _ (List.mem_of_getElem? (i := 76) rfl))))))))) rfl
theorem tw_1521 : (Jvm.Cond.methodLink "BoyBishopModel" (339 : Nat) ({ cls := "BoyBishopModel", name := "wants", desc := "(II)J" } : Jvm.MethodName)) ∈ gT := gT_in (List.mem_append_right _ (List.mem_append_right _ (List.mem_append_right _ (List.mem_append_right _ (List.mem_append_right _ (List.mem_append_right _ (List.mem_append_right _ (List.mem_append_left _ (List.mem_of_getElem? (i := 81) rfl))))))))) rfl
theorem tw_1523 : (Jvm.Cond.instanceMethod ({ cls := "BoyBishopModel", name := "wants", desc := "(II)J" } : Jvm.MethodName)) ∈ gT := gT_in (List.mem_append_right _ (List.mem_append_right _ (List.mem_append_right _ (List.mem_append_right _ (List.mem_append_right _ (List.mem_append_right _ (List.mem_append_right _ (List.mem_append_left _ (List.mem_of_getElem? (i := 83) rfl))))))))) rfl
theorem tw_1524 : (Jvm.Cond.code ({ cls := "BoyBishopModel", name := "wants", desc := "(II)J" } : Jvm.MethodName) prog_14_method_70_code (4 : Nat) (Option.some Jvm.ClassFile.FieldType.long)) ∈ gT := gT_in (List.mem_append_right _ (List.mem_append_right _ (List.mem_append_right _ (List.mem_append_right _ (List.mem_append_right _ (List.mem_append_right _ (List.mem_append_right _ (List.mem_append_left _ (List.mem_of_getElem? (i := 84) rfl))))))))) rfl
theorem tw_1525 : (Jvm.Cond.methodLink "BoyBishopModel" (332 : Nat) ({ cls := "BoyBishopModel", name := "soundMany", desc := "()I" } : Jvm.MethodName)) ∈ gT := gT_in (List.mem_append_right _ (List.mem_append_right _ (List.mem_append_right _ (List.mem_append_right _ (List.mem_append_right _ (List.mem_append_right _ (List.mem_append_right _ (List.mem_append_left _ (List.mem_of_getElem? (i := 85) rfl))))))))) rfl
theorem tw_1527 : (Jvm.Cond.instanceMethod ({ cls := "BoyBishopModel", name := "soundMany", desc := "()I" } : Jvm.MethodName)) ∈ gT := gT_in (List.mem_append_right _ (List.mem_append_right _ (List.mem_append_right _ (List.mem_append_right _ (List.mem_append_right _ (List.mem_append_right _ (List.mem_append_right _ (List.mem_append_left _ (List.mem_of_getElem? (i := 87) rfl))))))))) rfl
theorem tw_1528 : (Jvm.Cond.code ({ cls := "BoyBishopModel", name := "soundMany", desc := "()I" } : Jvm.MethodName) prog_14_method_61_code (3 : Nat) (Option.some Jvm.ClassFile.FieldType.int)) ∈ gT := gT_in (List.mem_append_right _ (List.mem_append_right _ (List.mem_append_right _ (List.mem_append_right _ (List.mem_append_right _ (List.mem_append_right _ (List.mem_append_right _ (List.mem_append_left _ (List.mem_of_getElem? (i := 88) rfl))))))))) rfl
theorem tw_1529 : (Jvm.Cond.methodLink "BoyBishopModel" (335 : Nat) ({ cls := "BoyBishopModel", name := "summedBy", desc := "(I)J" } : Jvm.MethodName)) ∈ gT := gT_in (List.mem_append_right _ (List.mem_append_right _ (List.mem_append_right _ (List.mem_append_right _ (List.mem_append_right _ (List.mem_append_right _ (List.mem_append_right _ (List.mem_append_left _ (List.mem_of_getElem? (i := 89) rfl))))))))) rfl
theorem tw_1531 : (Jvm.Cond.instanceMethod ({ cls := "BoyBishopModel", name := "summedBy", desc := "(I)J" } : Jvm.MethodName)) ∈ gT := gT_in (List.mem_append_right _ (List.mem_append_right _ (List.mem_append_right _ (List.mem_append_right _ (List.mem_append_right _ (List.mem_append_right _ (List.mem_append_right _ (List.mem_append_left _ (List.mem_of_getElem? (i := 91) rfl))))))))) rfl
theorem tw_1532 : (Jvm.Cond.code ({ cls := "BoyBishopModel", name := "summedBy", desc := "(I)J" } : Jvm.MethodName) prog_14_method_69_code (4 : Nat) (Option.some Jvm.ClassFile.FieldType.long)) ∈ gT := gT_in (List.mem_append_right _ (List.mem_append_right _ (List.mem_append_right _ (List.mem_append_right _ (List.mem_append_right _ (List.mem_append_right _ (List.mem_append_right _ (List.mem_append_left _ (List.mem_of_getElem? (i := 92) rfl))))))))) rfl
theorem tw_1533 : (Jvm.Cond.methodLink "BoyBishopModel" (328 : Nat) ({ cls := "BoyBishopModel", name := "reckons", desc := "(III)J" } : Jvm.MethodName)) ∈ gT := gT_in (List.mem_append_right _ (List.mem_append_right _ (List.mem_append_right _ (List.mem_append_right _ (List.mem_append_right _ (List.mem_append_right _ (List.mem_append_right _ (List.mem_append_left _ (List.mem_of_getElem? (i := 93) rfl))))))))) rfl
theorem tw_1535 : (Jvm.Cond.instanceMethod ({ cls := "BoyBishopModel", name := "reckons", desc := "(III)J" } : Jvm.MethodName)) ∈ gT := gT_in (List.mem_append_right _ (List.mem_append_right _ (List.mem_append_right _ (List.mem_append_right _ (List.mem_append_right _ (List.mem_append_right _ (List.mem_append_right _ (List.mem_append_left _ (List.mem_of_getElem? (i := 95) rfl))))))))) rfl
theorem tw_1536 : (Jvm.Cond.code ({ cls := "BoyBishopModel", name := "reckons", desc := "(III)J" } : Jvm.MethodName) prog_14_method_50_code (11 : Nat) (Option.some Jvm.ClassFile.FieldType.long)) ∈ gT := gT_in (List.mem_append_right _ (List.mem_append_right _ (List.mem_append_right _ (List.mem_append_right _ (List.mem_append_right _ (List.mem_append_right _ (List.mem_append_right _ (List.mem_append_left _ (List.mem_of_getElem? (i := 96) rfl))))))))) rfl
theorem dX12_fillsVotes_0 : decode cX12_fillsVotes 0 = .ok (.iconst 0, 1) := by decide +kernel
theorem dX12_fillsVotes_1 : decode cX12_fillsVotes 1 = .ok (.istore_n 1, 1) := by decide +kernel
theorem dX12_fillsVotes_2 : decode cX12_fillsVotes 2 = .ok (.iload_n 1, 1) := by decide +kernel
theorem dX12_fillsVotes_3 : decode cX12_fillsVotes 3 = .ok (.aload_n 0, 1) := by decide +kernel
theorem dX12_fillsVotes_4 : decode cX12_fillsVotes 4 = .ok (.getfield 39, 3) := by decide +kernel
theorem dX12_fillsVotes_7 : decode cX12_fillsVotes 7 = .ok (.iconst 3, 1) := by decide +kernel
theorem dX12_fillsVotes_8 : decode cX12_fillsVotes 8 = .ok (.iaload, 1) := by decide +kernel
theorem dX12_fillsVotes_9 : decode cX12_fillsVotes 9 = .ok (.if_icmp .ge 20, 3) := by decide +kernel
theorem dX12_fillsVotes_12 : decode cX12_fillsVotes 12 = .ok (.aload_n 0, 1) := by decide +kernel
theorem dX12_fillsVotes_13 : decode cX12_fillsVotes 13 = .ok (.getfield 46, 3) := by decide +kernel
theorem dX12_fillsVotes_16 : decode cX12_fillsVotes 16 = .ok (.iload_n 1, 1) := by decide +kernel
theorem dX12_fillsVotes_17 : decode cX12_fillsVotes 17 = .ok (.aload_n 0, 1) := by decide +kernel
theorem dX12_fillsVotes_18 : decode cX12_fillsVotes 18 = .ok (.iload_n 1, 1) := by decide +kernel
theorem dX12_fillsVotes_19 : decode cX12_fillsVotes 19 = .ok (.invokevirtual 343, 3) := by decide +kernel
theorem dX12_fillsVotes_22 : decode cX12_fillsVotes 22 = .ok (.iastore, 1) := by decide +kernel
theorem dX12_fillsVotes_23 : decode cX12_fillsVotes 23 = .ok (.iinc 1 1, 3) := by decide +kernel
theorem dX12_fillsVotes_26 : decode cX12_fillsVotes 26 = .ok (.goto (-24), 3) := by decide +kernel
theorem dX12_fillsVotes_29 : decode cX12_fillsVotes 29 = .ok (.return_, 1) := by decide +kernel
theorem dX12_one_0 : decode cX12_one 0 = .ok (.iload_n 0, 1) := by decide +kernel
theorem dX12_one_1 : decode cX12_one 1 = .ok (.tableswitch 171 2 14 #[67, 71, 75, 79, 107, 119, 131, 143, 155, 171, 167, 171, 93], 67) := by decide +kernel
theorem dX12_one_68 : decode cX12_one 68 = .ok (.lload_n 1, 1) := by decide +kernel
theorem dX12_one_69 : decode cX12_one 69 = .ok (.lload_n 3, 1) := by decide +kernel
theorem dX12_one_70 : decode cX12_one 70 = .ok (.ladd, 1) := by decide +kernel
theorem dX12_one_71 : decode cX12_one 71 = .ok (.lreturn, 1) := by decide +kernel
theorem dX12_one_72 : decode cX12_one 72 = .ok (.lload_n 1, 1) := by decide +kernel
theorem dX12_one_73 : decode cX12_one 73 = .ok (.lload_n 3, 1) := by decide +kernel
theorem dX12_one_74 : decode cX12_one 74 = .ok (.lsub, 1) := by decide +kernel
theorem dX12_one_75 : decode cX12_one 75 = .ok (.lreturn, 1) := by decide +kernel
theorem dX12_one_76 : decode cX12_one 76 = .ok (.lload_n 1, 1) := by decide +kernel
theorem dX12_one_77 : decode cX12_one 77 = .ok (.lload_n 3, 1) := by decide +kernel
theorem dX12_one_78 : decode cX12_one 78 = .ok (.lmul, 1) := by decide +kernel
theorem dX12_one_79 : decode cX12_one 79 = .ok (.lreturn, 1) := by decide +kernel
theorem dX12_one_80 : decode cX12_one 80 = .ok (.lload_n 3, 1) := by decide +kernel
theorem dX12_one_81 : decode cX12_one 81 = .ok (.lconst 0, 1) := by decide +kernel
theorem dX12_one_82 : decode cX12_one 82 = .ok (.lcmp, 1) := by decide +kernel
theorem dX12_one_83 : decode cX12_one 83 = .ok (.ifCond .ne 7, 3) := by decide +kernel
theorem dX12_one_86 : decode cX12_one 86 = .ok (.lconst 0, 1) := by decide +kernel
theorem dX12_one_87 : decode cX12_one 87 = .ok (.goto 6, 3) := by decide +kernel
theorem dX12_one_90 : decode cX12_one 90 = .ok (.lload_n 1, 1) := by decide +kernel
theorem dX12_one_91 : decode cX12_one 91 = .ok (.lload_n 3, 1) := by decide +kernel
theorem dX12_one_92 : decode cX12_one 92 = .ok (.ldiv, 1) := by decide +kernel
theorem dX12_one_93 : decode cX12_one 93 = .ok (.lreturn, 1) := by decide +kernel
theorem dX12_one_94 : decode cX12_one 94 = .ok (.lload_n 3, 1) := by decide +kernel
theorem dX12_one_95 : decode cX12_one 95 = .ok (.lconst 0, 1) := by decide +kernel
theorem dX12_one_96 : decode cX12_one 96 = .ok (.lcmp, 1) := by decide +kernel
theorem dX12_one_97 : decode cX12_one 97 = .ok (.ifCond .ne 7, 3) := by decide +kernel
theorem dX12_one_100 : decode cX12_one 100 = .ok (.lconst 0, 1) := by decide +kernel
theorem dX12_one_101 : decode cX12_one 101 = .ok (.goto 6, 3) := by decide +kernel
theorem dX12_one_104 : decode cX12_one 104 = .ok (.lload_n 1, 1) := by decide +kernel
theorem dX12_one_105 : decode cX12_one 105 = .ok (.lload_n 3, 1) := by decide +kernel
theorem dX12_one_106 : decode cX12_one 106 = .ok (.lrem, 1) := by decide +kernel
theorem dX12_one_107 : decode cX12_one 107 = .ok (.lreturn, 1) := by decide +kernel
theorem dX12_one_108 : decode cX12_one 108 = .ok (.lload_n 1, 1) := by decide +kernel
theorem dX12_one_109 : decode cX12_one 109 = .ok (.lload_n 3, 1) := by decide +kernel
theorem dX12_one_110 : decode cX12_one 110 = .ok (.lcmp, 1) := by decide +kernel
theorem dX12_one_111 : decode cX12_one 111 = .ok (.ifCond .ge 7, 3) := by decide +kernel
theorem dX12_one_114 : decode cX12_one 114 = .ok (.lconst 1, 1) := by decide +kernel
theorem dX12_one_115 : decode cX12_one 115 = .ok (.goto 4, 3) := by decide +kernel
theorem dX12_one_118 : decode cX12_one 118 = .ok (.lconst 0, 1) := by decide +kernel
theorem dX12_one_119 : decode cX12_one 119 = .ok (.lreturn, 1) := by decide +kernel
theorem dX12_one_120 : decode cX12_one 120 = .ok (.lload_n 1, 1) := by decide +kernel
theorem dX12_one_121 : decode cX12_one 121 = .ok (.lload_n 3, 1) := by decide +kernel
theorem dX12_one_122 : decode cX12_one 122 = .ok (.lcmp, 1) := by decide +kernel
theorem dX12_one_123 : decode cX12_one 123 = .ok (.ifCond .gt 7, 3) := by decide +kernel
theorem dX12_one_126 : decode cX12_one 126 = .ok (.lconst 1, 1) := by decide +kernel
theorem dX12_one_127 : decode cX12_one 127 = .ok (.goto 4, 3) := by decide +kernel
theorem dX12_one_130 : decode cX12_one 130 = .ok (.lconst 0, 1) := by decide +kernel
theorem dX12_one_131 : decode cX12_one 131 = .ok (.lreturn, 1) := by decide +kernel
theorem dX12_one_132 : decode cX12_one 132 = .ok (.lload_n 1, 1) := by decide +kernel
theorem dX12_one_133 : decode cX12_one 133 = .ok (.lload_n 3, 1) := by decide +kernel
theorem dX12_one_134 : decode cX12_one 134 = .ok (.lcmp, 1) := by decide +kernel
theorem dX12_one_135 : decode cX12_one 135 = .ok (.ifCond .ne 7, 3) := by decide +kernel
theorem dX12_one_138 : decode cX12_one 138 = .ok (.lconst 1, 1) := by decide +kernel
theorem dX12_one_139 : decode cX12_one 139 = .ok (.goto 4, 3) := by decide +kernel
theorem dX12_one_142 : decode cX12_one 142 = .ok (.lconst 0, 1) := by decide +kernel
theorem dX12_one_143 : decode cX12_one 143 = .ok (.lreturn, 1) := by decide +kernel
theorem dX12_one_144 : decode cX12_one 144 = .ok (.lload_n 1, 1) := by decide +kernel
theorem dX12_one_145 : decode cX12_one 145 = .ok (.lload_n 3, 1) := by decide +kernel
theorem dX12_one_146 : decode cX12_one 146 = .ok (.lcmp, 1) := by decide +kernel
theorem dX12_one_147 : decode cX12_one 147 = .ok (.ifCond .lt 7, 3) := by decide +kernel
theorem dX12_one_150 : decode cX12_one 150 = .ok (.lconst 1, 1) := by decide +kernel
theorem dX12_one_151 : decode cX12_one 151 = .ok (.goto 4, 3) := by decide +kernel
theorem dX12_one_154 : decode cX12_one 154 = .ok (.lconst 0, 1) := by decide +kernel
theorem dX12_one_155 : decode cX12_one 155 = .ok (.lreturn, 1) := by decide +kernel
theorem dX12_one_156 : decode cX12_one 156 = .ok (.lload_n 1, 1) := by decide +kernel
theorem dX12_one_157 : decode cX12_one 157 = .ok (.lload_n 3, 1) := by decide +kernel
theorem dX12_one_158 : decode cX12_one 158 = .ok (.lcmp, 1) := by decide +kernel
theorem dX12_one_159 : decode cX12_one 159 = .ok (.ifCond .le 7, 3) := by decide +kernel
theorem dX12_one_162 : decode cX12_one 162 = .ok (.lconst 1, 1) := by decide +kernel
theorem dX12_one_163 : decode cX12_one 163 = .ok (.goto 4, 3) := by decide +kernel
theorem dX12_one_166 : decode cX12_one 166 = .ok (.lconst 0, 1) := by decide +kernel
theorem dX12_one_167 : decode cX12_one 167 = .ok (.lreturn, 1) := by decide +kernel
theorem dX12_one_168 : decode cX12_one 168 = .ok (.lload_n 1, 1) := by decide +kernel
theorem dX12_one_169 : decode cX12_one 169 = .ok (.lload_n 3, 1) := by decide +kernel
theorem dX12_one_170 : decode cX12_one 170 = .ok (.land, 1) := by decide +kernel
theorem dX12_one_171 : decode cX12_one 171 = .ok (.lreturn, 1) := by decide +kernel
theorem dX12_one_172 : decode cX12_one 172 = .ok (.lload_n 1, 1) := by decide +kernel
theorem dX12_one_173 : decode cX12_one 173 = .ok (.lload_n 3, 1) := by decide +kernel
theorem dX12_one_174 : decode cX12_one 174 = .ok (.lor, 1) := by decide +kernel
theorem dX12_one_175 : decode cX12_one 175 = .ok (.lreturn, 1) := by decide +kernel
theorem dX12_summedBy_0 : decode cX12_summedBy 0 = .ok (.iconst 0, 1) := by decide +kernel
theorem dX12_summedBy_1 : decode cX12_summedBy 1 = .ok (.istore_n 2, 1) := by decide +kernel
theorem dX12_summedBy_2 : decode cX12_summedBy 2 = .ok (.iload_n 2, 1) := by decide +kernel
theorem dX12_summedBy_3 : decode cX12_summedBy 3 = .ok (.aload_n 0, 1) := by decide +kernel
theorem dX12_summedBy_4 : decode cX12_summedBy 4 = .ok (.getfield 23, 3) := by decide +kernel
theorem dX12_summedBy_7 : decode cX12_summedBy 7 = .ok (.iload_n 1, 1) := by decide +kernel
theorem dX12_summedBy_8 : decode cX12_summedBy 8 = .ok (.iaload, 1) := by decide +kernel
theorem dX12_summedBy_9 : decode cX12_summedBy 9 = .ok (.if_icmp .ge 75, 3) := by decide +kernel
theorem dX12_summedBy_12 : decode cX12_summedBy 12 = .ok (.bipush 48, 2) := by decide +kernel
theorem dX12_summedBy_14 : decode cX12_summedBy 14 = .ok (.iload_n 1, 1) := by decide +kernel
theorem dX12_summedBy_15 : decode cX12_summedBy 15 = .ok (.imul, 1) := by decide +kernel
theorem dX12_summedBy_16 : decode cX12_summedBy 16 = .ok (.iconst 4, 1) := by decide +kernel
theorem dX12_summedBy_17 : decode cX12_summedBy 17 = .ok (.iload_n 2, 1) := by decide +kernel
theorem dX12_summedBy_18 : decode cX12_summedBy 18 = .ok (.imul, 1) := by decide +kernel
theorem dX12_summedBy_19 : decode cX12_summedBy 19 = .ok (.iadd, 1) := by decide +kernel
theorem dX12_summedBy_20 : decode cX12_summedBy 20 = .ok (.istore_n 3, 1) := by decide +kernel
theorem dX12_summedBy_21 : decode cX12_summedBy 21 = .ok (.aload_n 0, 1) := by decide +kernel
theorem dX12_summedBy_22 : decode cX12_summedBy 22 = .ok (.getfield 20, 3) := by decide +kernel
theorem dX12_summedBy_25 : decode cX12_summedBy 25 = .ok (.iload_n 3, 1) := by decide +kernel
theorem dX12_summedBy_26 : decode cX12_summedBy 26 = .ok (.iconst 2, 1) := by decide +kernel
theorem dX12_summedBy_27 : decode cX12_summedBy 27 = .ok (.iadd, 1) := by decide +kernel
theorem dX12_summedBy_28 : decode cX12_summedBy 28 = .ok (.iaload, 1) := by decide +kernel
theorem dX12_summedBy_29 : decode cX12_summedBy 29 = .ok (.ifCond .lt 29, 3) := by decide +kernel
theorem dX12_summedBy_32 : decode cX12_summedBy 32 = .ok (.aload_n 0, 1) := by decide +kernel
theorem dX12_summedBy_33 : decode cX12_summedBy 33 = .ok (.iload_n 1, 1) := by decide +kernel
theorem dX12_summedBy_34 : decode cX12_summedBy 34 = .ok (.aload_n 0, 1) := by decide +kernel
theorem dX12_summedBy_35 : decode cX12_summedBy 35 = .ok (.getfield 20, 3) := by decide +kernel
theorem dX12_summedBy_38 : decode cX12_summedBy 38 = .ok (.iload_n 3, 1) := by decide +kernel
theorem dX12_summedBy_39 : decode cX12_summedBy 39 = .ok (.iconst 2, 1) := by decide +kernel
theorem dX12_summedBy_40 : decode cX12_summedBy 40 = .ok (.iadd, 1) := by decide +kernel
theorem dX12_summedBy_41 : decode cX12_summedBy 41 = .ok (.iaload, 1) := by decide +kernel
theorem dX12_summedBy_42 : decode cX12_summedBy 42 = .ok (.aload_n 0, 1) := by decide +kernel
theorem dX12_summedBy_43 : decode cX12_summedBy 43 = .ok (.getfield 20, 3) := by decide +kernel
theorem dX12_summedBy_46 : decode cX12_summedBy 46 = .ok (.iload_n 3, 1) := by decide +kernel
theorem dX12_summedBy_47 : decode cX12_summedBy 47 = .ok (.iconst 3, 1) := by decide +kernel
theorem dX12_summedBy_48 : decode cX12_summedBy 48 = .ok (.iadd, 1) := by decide +kernel
theorem dX12_summedBy_49 : decode cX12_summedBy 49 = .ok (.iaload, 1) := by decide +kernel
theorem dX12_summedBy_50 : decode cX12_summedBy 50 = .ok (.invokevirtual 328, 3) := by decide +kernel
theorem dX12_summedBy_53 : decode cX12_summedBy 53 = .ok (.lconst 1, 1) := by decide +kernel
theorem dX12_summedBy_54 : decode cX12_summedBy 54 = .ok (.lcmp, 1) := by decide +kernel
theorem dX12_summedBy_55 : decode cX12_summedBy 55 = .ok (.ifCond .ne 23, 3) := by decide +kernel
theorem dX12_summedBy_58 : decode cX12_summedBy 58 = .ok (.aload_n 0, 1) := by decide +kernel
theorem dX12_summedBy_59 : decode cX12_summedBy 59 = .ok (.iload_n 1, 1) := by decide +kernel
theorem dX12_summedBy_60 : decode cX12_summedBy 60 = .ok (.aload_n 0, 1) := by decide +kernel
theorem dX12_summedBy_61 : decode cX12_summedBy 61 = .ok (.getfield 20, 3) := by decide +kernel
theorem dX12_summedBy_64 : decode cX12_summedBy 64 = .ok (.iload_n 3, 1) := by decide +kernel
theorem dX12_summedBy_65 : decode cX12_summedBy 65 = .ok (.iaload, 1) := by decide +kernel
theorem dX12_summedBy_66 : decode cX12_summedBy 66 = .ok (.aload_n 0, 1) := by decide +kernel
theorem dX12_summedBy_67 : decode cX12_summedBy 67 = .ok (.getfield 20, 3) := by decide +kernel
theorem dX12_summedBy_70 : decode cX12_summedBy 70 = .ok (.iload_n 3, 1) := by decide +kernel
theorem dX12_summedBy_71 : decode cX12_summedBy 71 = .ok (.iconst 1, 1) := by decide +kernel
theorem dX12_summedBy_72 : decode cX12_summedBy 72 = .ok (.iadd, 1) := by decide +kernel
theorem dX12_summedBy_73 : decode cX12_summedBy 73 = .ok (.iaload, 1) := by decide +kernel
theorem dX12_summedBy_74 : decode cX12_summedBy 74 = .ok (.invokevirtual 328, 3) := by decide +kernel
theorem dX12_summedBy_77 : decode cX12_summedBy 77 = .ok (.lreturn, 1) := by decide +kernel
theorem dX12_summedBy_78 : decode cX12_summedBy 78 = .ok (.iinc 2 1, 3) := by decide +kernel
theorem dX12_summedBy_81 : decode cX12_summedBy 81 = .ok (.goto (-79), 3) := by decide +kernel
theorem dX12_summedBy_84 : decode cX12_summedBy 84 = .ok (.lconst 0, 1) := by decide +kernel
theorem dX12_summedBy_85 : decode cX12_summedBy 85 = .ok (.lreturn, 1) := by decide +kernel
theorem dX12_votesFor_0 : decode cX12_votesFor 0 = .ok (.iconst (-1), 1) := by decide +kernel
theorem dX12_votesFor_1 : decode cX12_votesFor 1 = .ok (.istore_n 2, 1) := by decide +kernel
theorem dX12_votesFor_2 : decode cX12_votesFor 2 = .ok (.lconst 0, 1) := by decide +kernel
theorem dX12_votesFor_3 : decode cX12_votesFor 3 = .ok (.lstore_n 3, 1) := by decide +kernel
theorem dX12_votesFor_4 : decode cX12_votesFor 4 = .ok (.iconst 0, 1) := by decide +kernel
theorem dX12_votesFor_5 : decode cX12_votesFor 5 = .ok (.istore 5, 2) := by decide +kernel
theorem dX12_votesFor_7 : decode cX12_votesFor 7 = .ok (.iload 5, 2) := by decide +kernel
theorem dX12_votesFor_9 : decode cX12_votesFor 9 = .ok (.aload_n 0, 1) := by decide +kernel
theorem dX12_votesFor_10 : decode cX12_votesFor 10 = .ok (.getfield 39, 3) := by decide +kernel
theorem dX12_votesFor_13 : decode cX12_votesFor 13 = .ok (.iconst 3, 1) := by decide +kernel
theorem dX12_votesFor_14 : decode cX12_votesFor 14 = .ok (.iaload, 1) := by decide +kernel
theorem dX12_votesFor_15 : decode cX12_votesFor 15 = .ok (.if_icmp .ge 46, 3) := by decide +kernel
theorem dX12_votesFor_18 : decode cX12_votesFor 18 = .ok (.aload_n 0, 1) := by decide +kernel
theorem dX12_votesFor_19 : decode cX12_votesFor 19 = .ok (.iload 5, 2) := by decide +kernel
theorem dX12_votesFor_21 : decode cX12_votesFor 21 = .ok (.invokevirtual 314, 3) := by decide +kernel
theorem dX12_votesFor_24 : decode cX12_votesFor 24 = .ok (.ifCond .ne 6, 3) := by decide +kernel
theorem dX12_votesFor_27 : decode cX12_votesFor 27 = .ok (.goto 28, 3) := by decide +kernel
theorem dX12_votesFor_30 : decode cX12_votesFor 30 = .ok (.aload_n 0, 1) := by decide +kernel
theorem dX12_votesFor_31 : decode cX12_votesFor 31 = .ok (.iload_n 1, 1) := by decide +kernel
theorem dX12_votesFor_32 : decode cX12_votesFor 32 = .ok (.iload 5, 2) := by decide +kernel
theorem dX12_votesFor_34 : decode cX12_votesFor 34 = .ok (.invokevirtual 339, 3) := by decide +kernel
theorem dX12_votesFor_37 : decode cX12_votesFor 37 = .ok (.lstore 6, 2) := by decide +kernel
theorem dX12_votesFor_39 : decode cX12_votesFor 39 = .ok (.lload 6, 2) := by decide +kernel
theorem dX12_votesFor_41 : decode cX12_votesFor 41 = .ok (.lload_n 3, 1) := by decide +kernel
theorem dX12_votesFor_42 : decode cX12_votesFor 42 = .ok (.lcmp, 1) := by decide +kernel
theorem dX12_votesFor_43 : decode cX12_votesFor 43 = .ok (.ifCond .gt 6, 3) := by decide +kernel
theorem dX12_votesFor_46 : decode cX12_votesFor 46 = .ok (.goto 9, 3) := by decide +kernel
theorem dX12_votesFor_49 : decode cX12_votesFor 49 = .ok (.iload 5, 2) := by decide +kernel
theorem dX12_votesFor_51 : decode cX12_votesFor 51 = .ok (.istore_n 2, 1) := by decide +kernel
theorem dX12_votesFor_52 : decode cX12_votesFor 52 = .ok (.lload 6, 2) := by decide +kernel
theorem dX12_votesFor_54 : decode cX12_votesFor 54 = .ok (.lstore_n 3, 1) := by decide +kernel
theorem dX12_votesFor_55 : decode cX12_votesFor 55 = .ok (.iinc 5 1, 3) := by decide +kernel
theorem dX12_votesFor_58 : decode cX12_votesFor 58 = .ok (.goto (-51), 3) := by decide +kernel
theorem dX12_votesFor_61 : decode cX12_votesFor 61 = .ok (.iload_n 2, 1) := by decide +kernel
theorem dX12_votesFor_62 : decode cX12_votesFor 62 = .ok (.ireturn, 1) := by decide +kernel
theorem dX12_wants_0 : decode cX12_wants 0 = .ok (.aload_n 0, 1) := by decide +kernel
theorem dX12_wants_1 : decode cX12_wants 1 = .ok (.getfield 39, 3) := by decide +kernel
theorem dX12_wants_4 : decode cX12_wants 4 = .ok (.bipush 70, 2) := by decide +kernel
theorem dX12_wants_6 : decode cX12_wants 6 = .ok (.bipush 6, 2) := by decide +kernel
theorem dX12_wants_8 : decode cX12_wants 8 = .ok (.iload_n 1, 1) := by decide +kernel
theorem dX12_wants_9 : decode cX12_wants 9 = .ok (.imul, 1) := by decide +kernel
theorem dX12_wants_10 : decode cX12_wants 10 = .ok (.iadd, 1) := by decide +kernel
theorem dX12_wants_11 : decode cX12_wants 11 = .ok (.iload_n 2, 1) := by decide +kernel
theorem dX12_wants_12 : decode cX12_wants 12 = .ok (.iadd, 1) := by decide +kernel
theorem dX12_wants_13 : decode cX12_wants 13 = .ok (.iaload, 1) := by decide +kernel
theorem dX12_wants_14 : decode cX12_wants 14 = .ok (.istore_n 3, 1) := by decide +kernel
theorem dX12_wants_15 : decode cX12_wants 15 = .ok (.aload_n 0, 1) := by decide +kernel
theorem dX12_wants_16 : decode cX12_wants 16 = .ok (.getfield 42, 3) := by decide +kernel
theorem dX12_wants_19 : decode cX12_wants 19 = .ok (.ifCond .ge 13, 3) := by decide +kernel
theorem dX12_wants_22 : decode cX12_wants 22 = .ok (.iload_n 3, 1) := by decide +kernel
theorem dX12_wants_23 : decode cX12_wants 23 = .ok (.aload_n 0, 1) := by decide +kernel
theorem dX12_wants_24 : decode cX12_wants 24 = .ok (.iload_n 2, 1) := by decide +kernel
theorem dX12_wants_25 : decode cX12_wants 25 = .ok (.iconst 1, 1) := by decide +kernel
theorem dX12_wants_26 : decode cX12_wants 26 = .ok (.invokevirtual 304, 3) := by decide +kernel
theorem dX12_wants_29 : decode cX12_wants 29 = .ok (.iadd, 1) := by decide +kernel
theorem dX12_wants_30 : decode cX12_wants 30 = .ok (.i2l, 1) := by decide +kernel
theorem dX12_wants_31 : decode cX12_wants 31 = .ok (.lreturn, 1) := by decide +kernel
theorem dX12_wants_32 : decode cX12_wants 32 = .ok (.aload_n 0, 1) := by decide +kernel
theorem dX12_wants_33 : decode cX12_wants 33 = .ok (.getfield 36, 3) := by decide +kernel
theorem dX12_wants_36 : decode cX12_wants 36 = .ok (.iconst 0, 1) := by decide +kernel
theorem dX12_wants_37 : decode cX12_wants 37 = .ok (.iload_n 1, 1) := by decide +kernel
theorem dX12_wants_38 : decode cX12_wants 38 = .ok (.i2l, 1) := by decide +kernel
theorem dX12_wants_39 : decode cX12_wants 39 = .ok (.lastore, 1) := by decide +kernel
theorem dX12_wants_40 : decode cX12_wants 40 = .ok (.aload_n 0, 1) := by decide +kernel
theorem dX12_wants_41 : decode cX12_wants 41 = .ok (.getfield 36, 3) := by decide +kernel
theorem dX12_wants_44 : decode cX12_wants 44 = .ok (.iconst 1, 1) := by decide +kernel
theorem dX12_wants_45 : decode cX12_wants 45 = .ok (.iload_n 2, 1) := by decide +kernel
theorem dX12_wants_46 : decode cX12_wants 46 = .ok (.i2l, 1) := by decide +kernel
theorem dX12_wants_47 : decode cX12_wants 47 = .ok (.lastore, 1) := by decide +kernel
theorem dX12_wants_48 : decode cX12_wants 48 = .ok (.aload_n 0, 1) := by decide +kernel
theorem dX12_wants_49 : decode cX12_wants 49 = .ok (.getfield 36, 3) := by decide +kernel
theorem dX12_wants_52 : decode cX12_wants 52 = .ok (.iconst 2, 1) := by decide +kernel
theorem dX12_wants_53 : decode cX12_wants 53 = .ok (.aload_n 0, 1) := by decide +kernel
theorem dX12_wants_54 : decode cX12_wants 54 = .ok (.iload_n 2, 1) := by decide +kernel
theorem dX12_wants_55 : decode cX12_wants 55 = .ok (.iconst 0, 1) := by decide +kernel
theorem dX12_wants_56 : decode cX12_wants 56 = .ok (.invokevirtual 304, 3) := by decide +kernel
theorem dX12_wants_59 : decode cX12_wants 59 = .ok (.i2l, 1) := by decide +kernel
theorem dX12_wants_60 : decode cX12_wants 60 = .ok (.lastore, 1) := by decide +kernel
theorem dX12_wants_61 : decode cX12_wants 61 = .ok (.aload_n 0, 1) := by decide +kernel
theorem dX12_wants_62 : decode cX12_wants 62 = .ok (.getfield 36, 3) := by decide +kernel
theorem dX12_wants_65 : decode cX12_wants 65 = .ok (.iconst 3, 1) := by decide +kernel
theorem dX12_wants_66 : decode cX12_wants 66 = .ok (.aload_n 0, 1) := by decide +kernel
theorem dX12_wants_67 : decode cX12_wants 67 = .ok (.iload_n 2, 1) := by decide +kernel
theorem dX12_wants_68 : decode cX12_wants 68 = .ok (.iconst 1, 1) := by decide +kernel
theorem dX12_wants_69 : decode cX12_wants 69 = .ok (.invokevirtual 304, 3) := by decide +kernel
theorem dX12_wants_72 : decode cX12_wants 72 = .ok (.i2l, 1) := by decide +kernel
theorem dX12_wants_73 : decode cX12_wants 73 = .ok (.lastore, 1) := by decide +kernel
theorem dX12_wants_74 : decode cX12_wants 74 = .ok (.aload_n 0, 1) := by decide +kernel
theorem dX12_wants_75 : decode cX12_wants 75 = .ok (.getfield 36, 3) := by decide +kernel
theorem dX12_wants_78 : decode cX12_wants 78 = .ok (.iconst 4, 1) := by decide +kernel
theorem dX12_wants_79 : decode cX12_wants 79 = .ok (.iload_n 3, 1) := by decide +kernel
theorem dX12_wants_80 : decode cX12_wants 80 = .ok (.i2l, 1) := by decide +kernel
theorem dX12_wants_81 : decode cX12_wants 81 = .ok (.lastore, 1) := by decide +kernel
theorem dX12_wants_82 : decode cX12_wants 82 = .ok (.aload_n 0, 1) := by decide +kernel
theorem dX12_wants_83 : decode cX12_wants 83 = .ok (.getfield 36, 3) := by decide +kernel
theorem dX12_wants_86 : decode cX12_wants 86 = .ok (.iconst 5, 1) := by decide +kernel
theorem dX12_wants_87 : decode cX12_wants 87 = .ok (.aload_n 0, 1) := by decide +kernel
theorem dX12_wants_88 : decode cX12_wants 88 = .ok (.getfield 39, 3) := by decide +kernel
theorem dX12_wants_91 : decode cX12_wants 91 = .ok (.bipush 52, 2) := by decide +kernel
theorem dX12_wants_93 : decode cX12_wants 93 = .ok (.iload_n 2, 1) := by decide +kernel
theorem dX12_wants_94 : decode cX12_wants 94 = .ok (.iadd, 1) := by decide +kernel
theorem dX12_wants_95 : decode cX12_wants 95 = .ok (.iaload, 1) := by decide +kernel
theorem dX12_wants_96 : decode cX12_wants 96 = .ok (.i2l, 1) := by decide +kernel
theorem dX12_wants_97 : decode cX12_wants 97 = .ok (.lastore, 1) := by decide +kernel
theorem dX12_wants_98 : decode cX12_wants 98 = .ok (.aload_n 0, 1) := by decide +kernel
theorem dX12_wants_99 : decode cX12_wants 99 = .ok (.getfield 36, 3) := by decide +kernel
theorem dX12_wants_102 : decode cX12_wants 102 = .ok (.bipush 6, 2) := by decide +kernel
theorem dX12_wants_104 : decode cX12_wants 104 = .ok (.aload_n 0, 1) := by decide +kernel
theorem dX12_wants_105 : decode cX12_wants 105 = .ok (.iload_n 2, 1) := by decide +kernel
theorem dX12_wants_106 : decode cX12_wants 106 = .ok (.iconst 2, 1) := by decide +kernel
theorem dX12_wants_107 : decode cX12_wants 107 = .ok (.invokevirtual 304, 3) := by decide +kernel
theorem dX12_wants_110 : decode cX12_wants 110 = .ok (.i2l, 1) := by decide +kernel
theorem dX12_wants_111 : decode cX12_wants 111 = .ok (.lastore, 1) := by decide +kernel
theorem dX12_wants_112 : decode cX12_wants 112 = .ok (.aload_n 0, 1) := by decide +kernel
theorem dX12_wants_113 : decode cX12_wants 113 = .ok (.getfield 36, 3) := by decide +kernel
theorem dX12_wants_116 : decode cX12_wants 116 = .ok (.bipush 7, 2) := by decide +kernel
theorem dX12_wants_118 : decode cX12_wants 118 = .ok (.iload_n 1, 1) := by decide +kernel
theorem dX12_wants_119 : decode cX12_wants 119 = .ok (.iload_n 2, 1) := by decide +kernel
theorem dX12_wants_120 : decode cX12_wants 120 = .ok (.if_icmp .ne 7, 3) := by decide +kernel
theorem dX12_wants_123 : decode cX12_wants 123 = .ok (.lconst 1, 1) := by decide +kernel
theorem dX12_wants_124 : decode cX12_wants 124 = .ok (.goto 4, 3) := by decide +kernel
theorem dX12_wants_127 : decode cX12_wants 127 = .ok (.lconst 0, 1) := by decide +kernel
theorem dX12_wants_128 : decode cX12_wants 128 = .ok (.lastore, 1) := by decide +kernel
theorem dX12_wants_129 : decode cX12_wants 129 = .ok (.aload_n 0, 1) := by decide +kernel
theorem dX12_wants_130 : decode cX12_wants 130 = .ok (.getfield 36, 3) := by decide +kernel
theorem dX12_wants_133 : decode cX12_wants 133 = .ok (.bipush 8, 2) := by decide +kernel
theorem dX12_wants_135 : decode cX12_wants 135 = .ok (.aload_n 0, 1) := by decide +kernel
theorem dX12_wants_136 : decode cX12_wants 136 = .ok (.getfield 39, 3) := by decide +kernel
theorem dX12_wants_139 : decode cX12_wants 139 = .ok (.bipush 10, 2) := by decide +kernel
theorem dX12_wants_141 : decode cX12_wants 141 = .ok (.iaload, 1) := by decide +kernel
theorem dX12_wants_142 : decode cX12_wants 142 = .ok (.i2l, 1) := by decide +kernel
theorem dX12_wants_143 : decode cX12_wants 143 = .ok (.lastore, 1) := by decide +kernel
theorem dX12_wants_144 : decode cX12_wants 144 = .ok (.aload_n 0, 1) := by decide +kernel
theorem dX12_wants_145 : decode cX12_wants 145 = .ok (.getfield 36, 3) := by decide +kernel
theorem dX12_wants_148 : decode cX12_wants 148 = .ok (.bipush 9, 2) := by decide +kernel
theorem dX12_wants_150 : decode cX12_wants 150 = .ok (.aload_n 0, 1) := by decide +kernel
theorem dX12_wants_151 : decode cX12_wants 151 = .ok (.getfield 39, 3) := by decide +kernel
theorem dX12_wants_154 : decode cX12_wants 154 = .ok (.bipush 13, 2) := by decide +kernel
theorem dX12_wants_156 : decode cX12_wants 156 = .ok (.iaload, 1) := by decide +kernel
theorem dX12_wants_157 : decode cX12_wants 157 = .ok (.i2l, 1) := by decide +kernel
theorem dX12_wants_158 : decode cX12_wants 158 = .ok (.lastore, 1) := by decide +kernel
theorem dX12_wants_159 : decode cX12_wants 159 = .ok (.aload_n 0, 1) := by decide +kernel
theorem dX12_wants_160 : decode cX12_wants 160 = .ok (.getfield 36, 3) := by decide +kernel
theorem dX12_wants_163 : decode cX12_wants 163 = .ok (.bipush 10, 2) := by decide +kernel
theorem dX12_wants_165 : decode cX12_wants 165 = .ok (.aload_n 0, 1) := by decide +kernel
theorem dX12_wants_166 : decode cX12_wants 166 = .ok (.invokevirtual 332, 3) := by decide +kernel
theorem dX12_wants_169 : decode cX12_wants 169 = .ok (.i2l, 1) := by decide +kernel
theorem dX12_wants_170 : decode cX12_wants 170 = .ok (.lastore, 1) := by decide +kernel
theorem dX12_wants_171 : decode cX12_wants 171 = .ok (.aload_n 0, 1) := by decide +kernel
theorem dX12_wants_172 : decode cX12_wants 172 = .ok (.aload_n 0, 1) := by decide +kernel
theorem dX12_wants_173 : decode cX12_wants 173 = .ok (.getfield 42, 3) := by decide +kernel
theorem dX12_wants_176 : decode cX12_wants 176 = .ok (.invokevirtual 335, 3) := by decide +kernel
theorem dX12_wants_179 : decode cX12_wants 179 = .ok (.lreturn, 1) := by decide +kernel
theorem li_52 : (52 : Int32).toInt = 52 := by decide
theorem li_70 : (70 : Int32).toInt = 70 := by decide
theorem iv_63_10 {B : Nat} : aiv B 63 (10 : Int32).toInt.toNat = (0, 1999) := by rw [show (10 : Int32).toInt.toNat = 10 by decide]; rfl
set_option maxHeartbeats 4000000 in
set_option maxRecDepth 100000 in
theorem t_X12_one (l : Launch) (dC : Nat → ClassId) (dI : Nat → Nat → Nat) (tys : List (ClassId × FieldType)) (κ : tK) (B : Nat) (ws : va_W) (hT : Ty κ tys B ws) (a0 : Int32) (l_a0 : 2 ≤ a0.toInt) (h_a0 : a0.toInt ≤ 15) (a1 : Int64) (a2 : Int64) (sz : Nat) : Met l yX12_one (ws_u yX12_one cX12_one 5 (some .long)) ({ frames := 0, cells := 0, slots := 0, locals := 0 }) (va_Pc [.int a0, .long a1, .long a2] (cPre (dC, dI) tys ws sz)) (va_Ql (fun (r : Int64) (w : va_W) => Ty κ tys B w ∧ Sm [] [] κ ws w) (fun w t => cPost (dC, dI) tys w (va_A ws sz) t) (va_A ws sz)) 0 0 (va_A ws sz) := by
  refine Met.ofW (cc := cX12_one) (maxL := 5) (ret := (some .long)) (by decide) rfl ?_
  intro p e s m args below meth c s₁ B0 hml hv
  obtain ⟨rfl, hsz, hP, hK, hD0, hE⟩ := hv
  have hx := B0.exec
  have hb := B0.bytes
  have hr := B0.returns
  have hts0 := atoms_spec (ws := ws_u yX12_one cX12_one 5 (some .long)) B0.pre
  have hts : ∀ w ∈ gT, w.before _ s = true := fun w h => hts0 w (List.mem_cons_of_mem _ h)
  have hown : s.vm.findClass RX12 = some m.cls := findClass_of_methodNamed B0.named
  have hlocks := B0.notSynchronized
  subst hsz
  have hD := hD0.self (sz := s.heap.size)
  generalize hAe : va_A ws s.heap.size = A at hD ⊢
  have hA : ∀ q : Nat, s.heap.size ≤ q → A q := fun q h => by rw [← hAe]; exact Or.inr h
  have hw : tW (dC, dI) tys κ B A s ws s.heap [] := ⟨hK, hP, hD, va_S.rf, hT⟩
  have hM : Sm [] [] κ ws ws := Sm.rf
  clear hP hK hD hD0 hts0
  have hl := lv_entry ([.int a0, .long a1, .long a2]) (n := 5) (Nat.le_of_ble_eq_true rfl)
  rw [lg_entry_eq]
  generalize (lg_sl ([.int a0, .long a1, .long a2]) ++ List.replicate (5 - (lg_sl ([.int a0, .long a1, .long a2])).length) Slot.unset).toArray = ls at hl ⊢
  have hl : lv_has ls 5 [(0, .int a0), (1, .long a1), (3, .long a2)] := hl
  refine t_start (fun QQ hQ => ?_)
  refine lv_iload_n hx hb dX12_one_0 rfl (lv_at hl 0 rfl) ?_
  rcases Classical.em (a0.toInt = 2) with c_1_0 | c_1_0
  · refine lv_tableIn (tgt := 68) hx hb dX12_one_1 (by omega) (by omega) (by rw [c_1_0]; rfl) (by decide) ?_
    refine lv_lload_n hx hb dX12_one_68 rfl (lv_at hl 1 rfl) ?_
    refine lv_lload_n hx hb dX12_one_69 rfl (lv_at hl 2 rfl) ?_
    refine lv_ladd hx hb dX12_one_70 ?_
    refine lv_topl (fun v70 e_v70 => ?_)
    rw [hQ]
    refine W.widen (k := 0) (n := 0) (Nat.le_refl _) (Nat.le_refl _) ?_
    exact W.lret (v := v70) hx hb hr (fun t ht hW => ⟨⟨v70, ws, rfl, ⟨hw.2.2.2.2, hM⟩, by rw [ht]; exact hw.2.1, va_K.moved hW.alike hw.1, hw.2.2.1⟩, hw.2.2.2.1.F ht⟩) hw.2.2.2.1.2.2 dX12_one_71
  rcases Classical.em (a0.toInt = 3) with c_1_1 | c_1_1
  · refine lv_tableIn (tgt := 72) hx hb dX12_one_1 (by omega) (by omega) (by rw [c_1_1]; rfl) (by decide) ?_
    refine lv_lload_n hx hb dX12_one_72 rfl (lv_at hl 1 rfl) ?_
    refine lv_lload_n hx hb dX12_one_73 rfl (lv_at hl 2 rfl) ?_
    refine lv_lsub hx hb dX12_one_74 ?_
    refine lv_topl (fun v74 e_v74 => ?_)
    rw [hQ]
    refine W.widen (k := 0) (n := 0) (Nat.le_refl _) (Nat.le_refl _) ?_
    exact W.lret (v := v74) hx hb hr (fun t ht hW => ⟨⟨v74, ws, rfl, ⟨hw.2.2.2.2, hM⟩, by rw [ht]; exact hw.2.1, va_K.moved hW.alike hw.1, hw.2.2.1⟩, hw.2.2.2.1.F ht⟩) hw.2.2.2.1.2.2 dX12_one_75
  rcases Classical.em (a0.toInt = 4) with c_1_2 | c_1_2
  · refine lv_tableIn (tgt := 76) hx hb dX12_one_1 (by omega) (by omega) (by rw [c_1_2]; rfl) (by decide) ?_
    refine lv_lload_n hx hb dX12_one_76 rfl (lv_at hl 1 rfl) ?_
    refine lv_lload_n hx hb dX12_one_77 rfl (lv_at hl 2 rfl) ?_
    refine lv_lmul hx hb dX12_one_78 ?_
    refine lv_topl (fun v78 e_v78 => ?_)
    rw [hQ]
    refine W.widen (k := 0) (n := 0) (Nat.le_refl _) (Nat.le_refl _) ?_
    exact W.lret (v := v78) hx hb hr (fun t ht hW => ⟨⟨v78, ws, rfl, ⟨hw.2.2.2.2, hM⟩, by rw [ht]; exact hw.2.1, va_K.moved hW.alike hw.1, hw.2.2.1⟩, hw.2.2.2.1.F ht⟩) hw.2.2.2.1.2.2 dX12_one_79
  rcases Classical.em (a0.toInt = 5) with c_1_3 | c_1_3
  · refine lv_tableIn (tgt := 80) hx hb dX12_one_1 (by omega) (by omega) (by rw [c_1_3]; rfl) (by decide) ?_
    refine lv_lload_n hx hb dX12_one_80 rfl (lv_at hl 2 rfl) ?_
    refine lv_lconst (v := 0) hx hb dX12_one_81 (by decide) ?_
    obtain ⟨v81, e_v81⟩ : ∃ y : Int64, y = 0 := ⟨_, rfl⟩
    refine W.eq (g2 := F0 m 82 ls [.long v81, .long a2]) (by rw [e_v81]) ?_
    have t_v81 : v81.toInt = 0 := by rw [e_v81]; decide
    refine W.lcmp hx hb dX12_one_82 ?_
    refine lv_topi (fun v82 e_v82 => ?_)
    have l_v82 := i32_lo v82
    have h_v82 := i32_hi v82
    have g_v82 := lgc e_v82
    refine lv_if_ne (tgt := 90) hx hb dX12_one_83 (by decide) (fun c_83 => ?_) (fun c_83 => ?_)
    · simp only [fa_lt, fa_le, fa_eq, li_0] at c_83
      refine lv_lload_n hx hb dX12_one_90 rfl (lv_at hl 1 rfl) ?_
      refine lv_lload_n hx hb dX12_one_91 rfl (lv_at hl 2 rfl) ?_
      refine lv_ldiv hx hb dX12_one_92 (fun h9 => c_83 (by rw [e_v82, h9, e_v81]; decide)) ?_
      refine lv_topl (fun v92 e_v92 => ?_)
      rw [hQ]
      refine W.widen (k := 0) (n := 0) (Nat.le_refl _) (Nat.le_refl _) ?_
      exact W.lret (v := v92) hx hb hr (fun t ht hW => ⟨⟨v92, ws, rfl, ⟨hw.2.2.2.2, hM⟩, by rw [ht]; exact hw.2.1, va_K.moved hW.alike hw.1, hw.2.2.1⟩, hw.2.2.2.1.F ht⟩) hw.2.2.2.1.2.2 dX12_one_93
    · simp only [fa_lt, fa_le, fa_eq, li_0] at c_83
      refine lv_lconst (v := 0) hx hb dX12_one_86 (by decide) ?_
      obtain ⟨v86, e_v86⟩ : ∃ y : Int64, y = 0 := ⟨_, rfl⟩
      refine W.eq (g2 := F0 m 87 ls [.long v86]) (by rw [e_v86]) ?_
      have t_v86 : v86.toInt = 0 := by rw [e_v86]; decide
      refine lv_goto (tgt := 93) hx hb dX12_one_87 (by decide) ?_
      rw [hQ]
      refine W.widen (k := 0) (n := 0) (Nat.le_refl _) (Nat.le_refl _) ?_
      exact W.lret (v := v86) hx hb hr (fun t ht hW => ⟨⟨v86, ws, rfl, ⟨hw.2.2.2.2, hM⟩, by rw [ht]; exact hw.2.1, va_K.moved hW.alike hw.1, hw.2.2.1⟩, hw.2.2.2.1.F ht⟩) hw.2.2.2.1.2.2 dX12_one_93
  rcases Classical.em (a0.toInt = 6) with c_1_4 | c_1_4
  · refine lv_tableIn (tgt := 108) hx hb dX12_one_1 (by omega) (by omega) (by rw [c_1_4]; rfl) (by decide) ?_
    refine lv_lload_n hx hb dX12_one_108 rfl (lv_at hl 1 rfl) ?_
    refine lv_lload_n hx hb dX12_one_109 rfl (lv_at hl 2 rfl) ?_
    refine W.lcmp hx hb dX12_one_110 ?_
    refine lv_topi (fun v110 e_v110 => ?_)
    have l_v110 := i32_lo v110
    have h_v110 := i32_hi v110
    have g_v110 := lgc e_v110
    refine lv_if_ge (tgt := 118) hx hb dX12_one_111 (by decide) (fun c_111 => ?_) (fun c_111 => ?_)
    · simp only [fa_lt, fa_le, fa_eq, li_0] at c_111
      refine lv_lconst (v := 0) hx hb dX12_one_118 (by decide) ?_
      obtain ⟨v118, e_v118⟩ : ∃ y : Int64, y = 0 := ⟨_, rfl⟩
      refine W.eq (g2 := F0 m 119 ls [.long v118]) (by rw [e_v118]) ?_
      have t_v118 : v118.toInt = 0 := by rw [e_v118]; decide
      rw [hQ]
      refine W.widen (k := 0) (n := 0) (Nat.le_refl _) (Nat.le_refl _) ?_
      exact W.lret (v := v118) hx hb hr (fun t ht hW => ⟨⟨v118, ws, rfl, ⟨hw.2.2.2.2, hM⟩, by rw [ht]; exact hw.2.1, va_K.moved hW.alike hw.1, hw.2.2.1⟩, hw.2.2.2.1.F ht⟩) hw.2.2.2.1.2.2 dX12_one_119
    · simp only [fa_lt, fa_le, fa_eq, li_0] at c_111
      refine lv_lconst (v := 1) hx hb dX12_one_114 (by decide) ?_
      obtain ⟨v114, e_v114⟩ : ∃ y : Int64, y = 1 := ⟨_, rfl⟩
      refine W.eq (g2 := F0 m 115 ls [.long v114]) (by rw [e_v114]) ?_
      have t_v114 : v114.toInt = 1 := by rw [e_v114]; decide
      refine lv_goto (tgt := 119) hx hb dX12_one_115 (by decide) ?_
      rw [hQ]
      refine W.widen (k := 0) (n := 0) (Nat.le_refl _) (Nat.le_refl _) ?_
      exact W.lret (v := v114) hx hb hr (fun t ht hW => ⟨⟨v114, ws, rfl, ⟨hw.2.2.2.2, hM⟩, by rw [ht]; exact hw.2.1, va_K.moved hW.alike hw.1, hw.2.2.1⟩, hw.2.2.2.1.F ht⟩) hw.2.2.2.1.2.2 dX12_one_119
  rcases Classical.em (a0.toInt = 7) with c_1_5 | c_1_5
  · refine lv_tableIn (tgt := 120) hx hb dX12_one_1 (by omega) (by omega) (by rw [c_1_5]; rfl) (by decide) ?_
    refine lv_lload_n hx hb dX12_one_120 rfl (lv_at hl 1 rfl) ?_
    refine lv_lload_n hx hb dX12_one_121 rfl (lv_at hl 2 rfl) ?_
    refine W.lcmp hx hb dX12_one_122 ?_
    refine lv_topi (fun v122 e_v122 => ?_)
    have l_v122 := i32_lo v122
    have h_v122 := i32_hi v122
    have g_v122 := lgc e_v122
    refine lv_if_gt (tgt := 130) hx hb dX12_one_123 (by decide) (fun c_123 => ?_) (fun c_123 => ?_)
    · simp only [fa_lt, fa_le, fa_eq, li_0] at c_123
      refine lv_lconst (v := 0) hx hb dX12_one_130 (by decide) ?_
      obtain ⟨v130, e_v130⟩ : ∃ y : Int64, y = 0 := ⟨_, rfl⟩
      refine W.eq (g2 := F0 m 131 ls [.long v130]) (by rw [e_v130]) ?_
      have t_v130 : v130.toInt = 0 := by rw [e_v130]; decide
      rw [hQ]
      refine W.widen (k := 0) (n := 0) (Nat.le_refl _) (Nat.le_refl _) ?_
      exact W.lret (v := v130) hx hb hr (fun t ht hW => ⟨⟨v130, ws, rfl, ⟨hw.2.2.2.2, hM⟩, by rw [ht]; exact hw.2.1, va_K.moved hW.alike hw.1, hw.2.2.1⟩, hw.2.2.2.1.F ht⟩) hw.2.2.2.1.2.2 dX12_one_131
    · simp only [fa_lt, fa_le, fa_eq, li_0] at c_123
      refine lv_lconst (v := 1) hx hb dX12_one_126 (by decide) ?_
      obtain ⟨v126, e_v126⟩ : ∃ y : Int64, y = 1 := ⟨_, rfl⟩
      refine W.eq (g2 := F0 m 127 ls [.long v126]) (by rw [e_v126]) ?_
      have t_v126 : v126.toInt = 1 := by rw [e_v126]; decide
      refine lv_goto (tgt := 131) hx hb dX12_one_127 (by decide) ?_
      rw [hQ]
      refine W.widen (k := 0) (n := 0) (Nat.le_refl _) (Nat.le_refl _) ?_
      exact W.lret (v := v126) hx hb hr (fun t ht hW => ⟨⟨v126, ws, rfl, ⟨hw.2.2.2.2, hM⟩, by rw [ht]; exact hw.2.1, va_K.moved hW.alike hw.1, hw.2.2.1⟩, hw.2.2.2.1.F ht⟩) hw.2.2.2.1.2.2 dX12_one_131
  rcases Classical.em (a0.toInt = 8) with c_1_6 | c_1_6
  · refine lv_tableIn (tgt := 132) hx hb dX12_one_1 (by omega) (by omega) (by rw [c_1_6]; rfl) (by decide) ?_
    refine lv_lload_n hx hb dX12_one_132 rfl (lv_at hl 1 rfl) ?_
    refine lv_lload_n hx hb dX12_one_133 rfl (lv_at hl 2 rfl) ?_
    refine W.lcmp hx hb dX12_one_134 ?_
    refine lv_topi (fun v134 e_v134 => ?_)
    have l_v134 := i32_lo v134
    have h_v134 := i32_hi v134
    have g_v134 := lgc e_v134
    refine lv_if_ne (tgt := 142) hx hb dX12_one_135 (by decide) (fun c_135 => ?_) (fun c_135 => ?_)
    · simp only [fa_lt, fa_le, fa_eq, li_0] at c_135
      refine lv_lconst (v := 0) hx hb dX12_one_142 (by decide) ?_
      obtain ⟨v142, e_v142⟩ : ∃ y : Int64, y = 0 := ⟨_, rfl⟩
      refine W.eq (g2 := F0 m 143 ls [.long v142]) (by rw [e_v142]) ?_
      have t_v142 : v142.toInt = 0 := by rw [e_v142]; decide
      rw [hQ]
      refine W.widen (k := 0) (n := 0) (Nat.le_refl _) (Nat.le_refl _) ?_
      exact W.lret (v := v142) hx hb hr (fun t ht hW => ⟨⟨v142, ws, rfl, ⟨hw.2.2.2.2, hM⟩, by rw [ht]; exact hw.2.1, va_K.moved hW.alike hw.1, hw.2.2.1⟩, hw.2.2.2.1.F ht⟩) hw.2.2.2.1.2.2 dX12_one_143
    · simp only [fa_lt, fa_le, fa_eq, li_0] at c_135
      refine lv_lconst (v := 1) hx hb dX12_one_138 (by decide) ?_
      obtain ⟨v138, e_v138⟩ : ∃ y : Int64, y = 1 := ⟨_, rfl⟩
      refine W.eq (g2 := F0 m 139 ls [.long v138]) (by rw [e_v138]) ?_
      have t_v138 : v138.toInt = 1 := by rw [e_v138]; decide
      refine lv_goto (tgt := 143) hx hb dX12_one_139 (by decide) ?_
      rw [hQ]
      refine W.widen (k := 0) (n := 0) (Nat.le_refl _) (Nat.le_refl _) ?_
      exact W.lret (v := v138) hx hb hr (fun t ht hW => ⟨⟨v138, ws, rfl, ⟨hw.2.2.2.2, hM⟩, by rw [ht]; exact hw.2.1, va_K.moved hW.alike hw.1, hw.2.2.1⟩, hw.2.2.2.1.F ht⟩) hw.2.2.2.1.2.2 dX12_one_143
  rcases Classical.em (a0.toInt = 9) with c_1_7 | c_1_7
  · refine lv_tableIn (tgt := 144) hx hb dX12_one_1 (by omega) (by omega) (by rw [c_1_7]; rfl) (by decide) ?_
    refine lv_lload_n hx hb dX12_one_144 rfl (lv_at hl 1 rfl) ?_
    refine lv_lload_n hx hb dX12_one_145 rfl (lv_at hl 2 rfl) ?_
    refine W.lcmp hx hb dX12_one_146 ?_
    refine lv_topi (fun v146 e_v146 => ?_)
    have l_v146 := i32_lo v146
    have h_v146 := i32_hi v146
    have g_v146 := lgc e_v146
    refine lv_if_lt (tgt := 154) hx hb dX12_one_147 (by decide) (fun c_147 => ?_) (fun c_147 => ?_)
    · simp only [fa_lt, fa_le, fa_eq, li_0] at c_147
      refine lv_lconst (v := 0) hx hb dX12_one_154 (by decide) ?_
      obtain ⟨v154, e_v154⟩ : ∃ y : Int64, y = 0 := ⟨_, rfl⟩
      refine W.eq (g2 := F0 m 155 ls [.long v154]) (by rw [e_v154]) ?_
      have t_v154 : v154.toInt = 0 := by rw [e_v154]; decide
      rw [hQ]
      refine W.widen (k := 0) (n := 0) (Nat.le_refl _) (Nat.le_refl _) ?_
      exact W.lret (v := v154) hx hb hr (fun t ht hW => ⟨⟨v154, ws, rfl, ⟨hw.2.2.2.2, hM⟩, by rw [ht]; exact hw.2.1, va_K.moved hW.alike hw.1, hw.2.2.1⟩, hw.2.2.2.1.F ht⟩) hw.2.2.2.1.2.2 dX12_one_155
    · simp only [fa_lt, fa_le, fa_eq, li_0] at c_147
      refine lv_lconst (v := 1) hx hb dX12_one_150 (by decide) ?_
      obtain ⟨v150, e_v150⟩ : ∃ y : Int64, y = 1 := ⟨_, rfl⟩
      refine W.eq (g2 := F0 m 151 ls [.long v150]) (by rw [e_v150]) ?_
      have t_v150 : v150.toInt = 1 := by rw [e_v150]; decide
      refine lv_goto (tgt := 155) hx hb dX12_one_151 (by decide) ?_
      rw [hQ]
      refine W.widen (k := 0) (n := 0) (Nat.le_refl _) (Nat.le_refl _) ?_
      exact W.lret (v := v150) hx hb hr (fun t ht hW => ⟨⟨v150, ws, rfl, ⟨hw.2.2.2.2, hM⟩, by rw [ht]; exact hw.2.1, va_K.moved hW.alike hw.1, hw.2.2.1⟩, hw.2.2.2.1.F ht⟩) hw.2.2.2.1.2.2 dX12_one_155
  rcases Classical.em (a0.toInt = 10) with c_1_8 | c_1_8
  · refine lv_tableIn (tgt := 156) hx hb dX12_one_1 (by omega) (by omega) (by rw [c_1_8]; rfl) (by decide) ?_
    refine lv_lload_n hx hb dX12_one_156 rfl (lv_at hl 1 rfl) ?_
    refine lv_lload_n hx hb dX12_one_157 rfl (lv_at hl 2 rfl) ?_
    refine W.lcmp hx hb dX12_one_158 ?_
    refine lv_topi (fun v158 e_v158 => ?_)
    have l_v158 := i32_lo v158
    have h_v158 := i32_hi v158
    have g_v158 := lgc e_v158
    refine lv_if_le (tgt := 166) hx hb dX12_one_159 (by decide) (fun c_159 => ?_) (fun c_159 => ?_)
    · simp only [fa_lt, fa_le, fa_eq, li_0] at c_159
      refine lv_lconst (v := 0) hx hb dX12_one_166 (by decide) ?_
      obtain ⟨v166, e_v166⟩ : ∃ y : Int64, y = 0 := ⟨_, rfl⟩
      refine W.eq (g2 := F0 m 167 ls [.long v166]) (by rw [e_v166]) ?_
      have t_v166 : v166.toInt = 0 := by rw [e_v166]; decide
      rw [hQ]
      refine W.widen (k := 0) (n := 0) (Nat.le_refl _) (Nat.le_refl _) ?_
      exact W.lret (v := v166) hx hb hr (fun t ht hW => ⟨⟨v166, ws, rfl, ⟨hw.2.2.2.2, hM⟩, by rw [ht]; exact hw.2.1, va_K.moved hW.alike hw.1, hw.2.2.1⟩, hw.2.2.2.1.F ht⟩) hw.2.2.2.1.2.2 dX12_one_167
    · simp only [fa_lt, fa_le, fa_eq, li_0] at c_159
      refine lv_lconst (v := 1) hx hb dX12_one_162 (by decide) ?_
      obtain ⟨v162, e_v162⟩ : ∃ y : Int64, y = 1 := ⟨_, rfl⟩
      refine W.eq (g2 := F0 m 163 ls [.long v162]) (by rw [e_v162]) ?_
      have t_v162 : v162.toInt = 1 := by rw [e_v162]; decide
      refine lv_goto (tgt := 167) hx hb dX12_one_163 (by decide) ?_
      rw [hQ]
      refine W.widen (k := 0) (n := 0) (Nat.le_refl _) (Nat.le_refl _) ?_
      exact W.lret (v := v162) hx hb hr (fun t ht hW => ⟨⟨v162, ws, rfl, ⟨hw.2.2.2.2, hM⟩, by rw [ht]; exact hw.2.1, va_K.moved hW.alike hw.1, hw.2.2.1⟩, hw.2.2.2.1.F ht⟩) hw.2.2.2.1.2.2 dX12_one_167
  rcases Classical.em (a0.toInt = 11) with c_1_9 | c_1_9
  · refine lv_tableIn (tgt := 172) hx hb dX12_one_1 (by omega) (by omega) (by rw [c_1_9]; rfl) (by decide) ?_
    refine lv_lload_n hx hb dX12_one_172 rfl (lv_at hl 1 rfl) ?_
    refine lv_lload_n hx hb dX12_one_173 rfl (lv_at hl 2 rfl) ?_
    refine lv_lor hx hb dX12_one_174 ?_
    refine lv_topl (fun v174 e_v174 => ?_)
    rw [hQ]
    refine W.widen (k := 0) (n := 0) (Nat.le_refl _) (Nat.le_refl _) ?_
    exact W.lret (v := v174) hx hb hr (fun t ht hW => ⟨⟨v174, ws, rfl, ⟨hw.2.2.2.2, hM⟩, by rw [ht]; exact hw.2.1, va_K.moved hW.alike hw.1, hw.2.2.1⟩, hw.2.2.2.1.F ht⟩) hw.2.2.2.1.2.2 dX12_one_175
  rcases Classical.em (a0.toInt = 12) with c_1_10 | c_1_10
  · refine lv_tableIn (tgt := 168) hx hb dX12_one_1 (by omega) (by omega) (by rw [c_1_10]; rfl) (by decide) ?_
    refine lv_lload_n hx hb dX12_one_168 rfl (lv_at hl 1 rfl) ?_
    refine lv_lload_n hx hb dX12_one_169 rfl (lv_at hl 2 rfl) ?_
    refine lv_land hx hb dX12_one_170 ?_
    refine lv_topl (fun v170 e_v170 => ?_)
    rw [hQ]
    refine W.widen (k := 0) (n := 0) (Nat.le_refl _) (Nat.le_refl _) ?_
    exact W.lret (v := v170) hx hb hr (fun t ht hW => ⟨⟨v170, ws, rfl, ⟨hw.2.2.2.2, hM⟩, by rw [ht]; exact hw.2.1, va_K.moved hW.alike hw.1, hw.2.2.1⟩, hw.2.2.2.1.F ht⟩) hw.2.2.2.1.2.2 dX12_one_171
  rcases Classical.em (a0.toInt = 13) with c_1_11 | c_1_11
  · refine lv_tableIn (tgt := 172) hx hb dX12_one_1 (by omega) (by omega) (by rw [c_1_11]; rfl) (by decide) ?_
    refine lv_lload_n hx hb dX12_one_172 rfl (lv_at hl 1 rfl) ?_
    refine lv_lload_n hx hb dX12_one_173 rfl (lv_at hl 2 rfl) ?_
    refine lv_lor hx hb dX12_one_174 ?_
    refine lv_topl (fun v174 e_v174 => ?_)
    rw [hQ]
    refine W.widen (k := 0) (n := 0) (Nat.le_refl _) (Nat.le_refl _) ?_
    exact W.lret (v := v174) hx hb hr (fun t ht hW => ⟨⟨v174, ws, rfl, ⟨hw.2.2.2.2, hM⟩, by rw [ht]; exact hw.2.1, va_K.moved hW.alike hw.1, hw.2.2.1⟩, hw.2.2.2.1.F ht⟩) hw.2.2.2.1.2.2 dX12_one_175
  rcases Classical.em (a0.toInt = 14) with c_1_12 | c_1_12
  · refine lv_tableIn (tgt := 94) hx hb dX12_one_1 (by omega) (by omega) (by rw [c_1_12]; rfl) (by decide) ?_
    refine lv_lload_n hx hb dX12_one_94 rfl (lv_at hl 2 rfl) ?_
    refine lv_lconst (v := 0) hx hb dX12_one_95 (by decide) ?_
    obtain ⟨v95, e_v95⟩ : ∃ y : Int64, y = 0 := ⟨_, rfl⟩
    refine W.eq (g2 := F0 m 96 ls [.long v95, .long a2]) (by rw [e_v95]) ?_
    have t_v95 : v95.toInt = 0 := by rw [e_v95]; decide
    refine W.lcmp hx hb dX12_one_96 ?_
    refine lv_topi (fun v96 e_v96 => ?_)
    have l_v96 := i32_lo v96
    have h_v96 := i32_hi v96
    have g_v96 := lgc e_v96
    refine lv_if_ne (tgt := 104) hx hb dX12_one_97 (by decide) (fun c_97 => ?_) (fun c_97 => ?_)
    · simp only [fa_lt, fa_le, fa_eq, li_0] at c_97
      refine lv_lload_n hx hb dX12_one_104 rfl (lv_at hl 1 rfl) ?_
      refine lv_lload_n hx hb dX12_one_105 rfl (lv_at hl 2 rfl) ?_
      refine lv_lrem hx hb dX12_one_106 (fun h9 => c_97 (by rw [e_v96, h9, e_v95]; decide)) ?_
      refine lv_topl (fun v106 e_v106 => ?_)
      rw [hQ]
      refine W.widen (k := 0) (n := 0) (Nat.le_refl _) (Nat.le_refl _) ?_
      exact W.lret (v := v106) hx hb hr (fun t ht hW => ⟨⟨v106, ws, rfl, ⟨hw.2.2.2.2, hM⟩, by rw [ht]; exact hw.2.1, va_K.moved hW.alike hw.1, hw.2.2.1⟩, hw.2.2.2.1.F ht⟩) hw.2.2.2.1.2.2 dX12_one_107
    · simp only [fa_lt, fa_le, fa_eq, li_0] at c_97
      refine lv_lconst (v := 0) hx hb dX12_one_100 (by decide) ?_
      obtain ⟨v100, e_v100⟩ : ∃ y : Int64, y = 0 := ⟨_, rfl⟩
      refine W.eq (g2 := F0 m 101 ls [.long v100]) (by rw [e_v100]) ?_
      have t_v100 : v100.toInt = 0 := by rw [e_v100]; decide
      refine lv_goto (tgt := 107) hx hb dX12_one_101 (by decide) ?_
      rw [hQ]
      refine W.widen (k := 0) (n := 0) (Nat.le_refl _) (Nat.le_refl _) ?_
      exact W.lret (v := v100) hx hb hr (fun t ht hW => ⟨⟨v100, ws, rfl, ⟨hw.2.2.2.2, hM⟩, by rw [ht]; exact hw.2.1, va_K.moved hW.alike hw.1, hw.2.2.1⟩, hw.2.2.2.1.F ht⟩) hw.2.2.2.1.2.2 dX12_one_107
  · refine lv_tableOut (tgt := 172) hx hb dX12_one_1 (by omega) (by decide) ?_
    refine lv_lload_n hx hb dX12_one_172 rfl (lv_at hl 1 rfl) ?_
    refine lv_lload_n hx hb dX12_one_173 rfl (lv_at hl 2 rfl) ?_
    refine lv_lor hx hb dX12_one_174 ?_
    refine lv_topl (fun v174 e_v174 => ?_)
    rw [hQ]
    refine W.widen (k := 0) (n := 0) (Nat.le_refl _) (Nat.le_refl _) ?_
    exact W.lret (v := v174) hx hb hr (fun t ht hW => ⟨⟨v174, ws, rfl, ⟨hw.2.2.2.2, hM⟩, by rw [ht]; exact hw.2.1, va_K.moved hW.alike hw.1, hw.2.2.1⟩, hw.2.2.2.1.F ht⟩) hw.2.2.2.1.2.2 dX12_one_175
set_option maxHeartbeats 4000000 in
set_option maxRecDepth 100000 in
theorem t_X12_pop (l : Launch) (dC : Nat → ClassId) (dI : Nat → Nat → Nat) (tys : List (ClassId × FieldType)) (κ : tK) (B : Nat) (ws : va_W) (hT : Ty κ tys B ws) (a0 : Nat) (k_a0 : κ a0 = some 12) (sz : Nat) : Met l yX12_pop (ws_u yX12_pop cX12_pop 1 (some .long)) ({ frames := 12, cells := 0, slots := 0, locals := 400 }) (va_Pc [.ref a0] (cPre (dC, dI) tys ws sz)) (va_Ql (fun (r : Int64) (w : va_W) => Ty κ tys B w ∧ Sm [(12, 18)] [] κ ws w) (fun w t => cPost (dC, dI) tys w (va_A ws sz) t) (va_A ws sz)) 0 0 (va_A ws sz) := by
  sorry
set_option maxHeartbeats 4000000 in
set_option maxRecDepth 100000 in
theorem t_X12_push (l : Launch) (dC : Nat → ClassId) (dI : Nat → Nat → Nat) (tys : List (ClassId × FieldType)) (κ : tK) (B : Nat) (ws : va_W) (hT : Ty κ tys B ws) (a0 : Nat) (k_a0 : κ a0 = some 12) (a1 : Int64) (sz : Nat) : Met l yX12_push (ws_u yX12_push cX12_push 3 none) ({ frames := 12, cells := 0, slots := 0, locals := 400 }) (va_Pc [.ref a0, .long a1] (cPre (dC, dI) tys ws sz)) (va_Qv (fun (w : va_W) => Ty κ tys B w ∧ Sm [(12, 18)] [61] κ ws w) (fun w t => cPost (dC, dI) tys w (va_A ws sz) t) (va_A ws sz)) 0 0 (va_A ws sz) := by
  sorry
set_option maxHeartbeats 4000000 in
set_option maxRecDepth 100000 in
theorem t_X12_reckons (l : Launch) (dC : Nat → ClassId) (dI : Nat → Nat → Nat) (tys : List (ClassId × FieldType)) (κ : tK) (B : Nat) (ws : va_W) (hT : Ty κ tys B ws) (a0 : Nat) (k_a0 : κ a0 = some 12) (a1 : Int32) (l_a1 : 0 ≤ a1.toInt) (h_a1 : a1.toInt ≤ 5) (a2 : Int32) (l_a2 : (-1) ≤ a2.toInt) (h_a2 : a2.toInt ≤ 400) (a3 : Int32) (l_a3 : (-1) ≤ a3.toInt) (h_a3 : a3.toInt ≤ 400) (sz : Nat) : Met l yX12_reckons (ws_u yX12_reckons cX12_reckons 11 (some .long)) ({ frames := 12, cells := 0, slots := 0, locals := 400 }) (va_Pc [.ref a0, .int a1, .int a2, .int a3] (cPre (dC, dI) tys ws sz)) (va_Ql (fun (r : Int64) (w : va_W) => Ty κ tys B w ∧ Sm [(12, 18)] [61] κ ws w) (fun w t => cPost (dC, dI) tys w (va_A ws sz) t) (va_A ws sz)) 0 0 (va_A ws sz) := by
  sorry
set_option maxHeartbeats 4000000 in
set_option maxRecDepth 100000 in
theorem t_X12_summedBy (l : Launch) (dC : Nat → ClassId) (dI : Nat → Nat → Nat) (tys : List (ClassId × FieldType)) (κ : tK) (B : Nat) (ws : va_W) (hT : Ty κ tys B ws) (a0 : Nat) (k_a0 : κ a0 = some 12) (a1 : Int32) (l_a1 : 0 ≤ a1.toInt) (h_a1 : a1.toInt ≤ 5) (sz : Nat) : Met l yX12_summedBy (ws_u yX12_summedBy cX12_summedBy 4 (some .long)) ({ frames := 13, cells := 0, slots := 0, locals := 430 }) (va_Pc [.ref a0, .int a1] (cPre (dC, dI) tys ws sz)) (va_Ql (fun (r : Int64) (w : va_W) => Ty κ tys B w ∧ Sm [(12, 18)] [61] κ ws w) (fun w t => cPost (dC, dI) tys w (va_A ws sz) t) (va_A ws sz)) 0 0 (va_A ws sz) := by
  refine Met.ofW (cc := cX12_summedBy) (maxL := 4) (ret := (some .long)) (by decide) rfl ?_
  intro p e s m args below meth c s₁ B0 hml hv
  obtain ⟨rfl, hsz, hP, hK, hD0, hE⟩ := hv
  have hx := B0.exec
  have hb := B0.bytes
  have hr := B0.returns
  have hts0 := atoms_spec (ws := ws_u yX12_summedBy cX12_summedBy 4 (some .long)) B0.pre
  have hts : ∀ w ∈ gT, w.before _ s = true := fun w h => hts0 w (List.mem_cons_of_mem _ h)
  have hown : s.vm.findClass RX12 = some m.cls := findClass_of_methodNamed B0.named
  have hlocks := B0.notSynchronized
  subst hsz
  have hD := hD0.self (sz := s.heap.size)
  generalize hAe : va_A ws s.heap.size = A at hD ⊢
  have hA : ∀ q : Nat, s.heap.size ≤ q → A q := fun q h => by rw [← hAe]; exact Or.inr h
  have hw : tW (dC, dI) tys κ B A s ws s.heap [] := ⟨hK, hP, hD, va_S.rf, hT⟩
  have hM : Sm [(12, 18)] [61] κ ws ws := Sm.rf
  clear hP hK hD hD0 hts0
  have hl := lv_entry ([.ref a0, .int a1]) (n := 4) (Nat.le_of_ble_eq_true rfl)
  rw [lg_entry_eq]
  generalize (lg_sl ([.ref a0, .int a1]) ++ List.replicate (4 - (lg_sl ([.ref a0, .int a1])).length) Slot.unset).toArray = ls at hl ⊢
  have hl : lv_has ls 4 [(0, .ref a0), (1, .int a1)] := hl
  refine t_start (fun QQ hQ => ?_)
  refine lv_iconst (v := 0) hx hb dX12_summedBy_0 (by decide) ?_
  refine lv_istore_n (lv' := [(2, .int 0), (0, .ref a0), (1, .int a1)]) hx hb dX12_summedBy_1 rfl hl (by decide) rfl (fun ls hl => ?_)
  have J2 : ∀ (n : Nat) (H : Heap) (locs : List Loc) (ls : Array Slot), (∃ (w2 : va_W) (p2_l2 : Int32), tW (dC, dI) tys κ B A s w2 H locs ∧ Sm [(12, 18)] [61] κ ws w2 ∧ 0 ≤ p2_l2.toInt ∧ p2_l2.toInt ≤ 12 ∧ lv_has ls 4 [(0, .ref a0), (1, .int a1), (2, .int p2_l2)] ∧ (12 - p2_l2.toInt).toNat = n) → W p l e (headSpec (ws_u yX12_summedBy cX12_summedBy 4 (some .long)) ({ frames := 13, cells := 0, slots := 0, locals := 430 })).room s m ([.ref a0, .int a1] : List Value).toArray below meth c H locs 0 0 QQ (F0 m 2 ls []) := by
    refine loopT _ ?_
    intro n_2 H locs ls hI ih_2
    obtain ⟨w2, p2_l2, hw, hM, l_p2_l2, h_p2_l2, hl, hn_2⟩ := hI
    refine lv_iload_n hx hb dX12_summedBy_2 rfl (lv_at hl 2 rfl) ?_
    refine lv_aload_n hx hb dX12_summedBy_3 rfl (lv_at hl 0 rfl) ?_
    refine t_getr (k1 := 58) (ci := 12) (C := RX12) (T := TX12) (N := 38) hx hb hts iX12 hown hw k_a0 rfl rfl rfl 6 (by decide) (hts _ tw_1131) (fun _ h9 => h9) dX12_summedBy_4 rfl (fun v4 k_v4 f_a0_X12_6 => ?_)
    refine lv_iload_n hx hb dX12_summedBy_7 rfl (lv_at hl 1 rfl) ?_
    refine t_iald hx hb hw k_v4 rfl rfl (by omega) (show a1.toInt < 6 by omega) dX12_summedBy_8 (fun v8 r_v8 s_v8 q_v8 => ?_)
    have l_v8 : 0 ≤ v8.toInt := r_v8
    have h_v8 : v8.toInt ≤ 12 := s_v8
    refine lv_icmp_ge (tgt := 84) hx hb dX12_summedBy_9 (by decide) (fun c_9 => ?_) (fun c_9 => ?_)
    · simp only [fa_lt, fa_le, fa_eq] at c_9
      refine lv_lconst (v := 0) hx hb dX12_summedBy_84 (by decide) ?_
      obtain ⟨v84, e_v84⟩ : ∃ y : Int64, y = 0 := ⟨_, rfl⟩
      refine W.eq (g2 := F0 m 85 ls [.long v84]) (by rw [e_v84]) ?_
      have t_v84 : v84.toInt = 0 := by rw [e_v84]; decide
      rw [hQ]
      refine W.widen (k := 0) (n := 0) (Nat.le_refl _) (Nat.le_refl _) ?_
      exact W.lret (v := v84) hx hb hr (fun t ht hW => ⟨⟨v84, w2, rfl, ⟨hw.2.2.2.2, hM⟩, by rw [ht]; exact hw.2.1, va_K.moved hW.alike hw.1, hw.2.2.1⟩, hw.2.2.2.1.F ht⟩) hw.2.2.2.1.2.2 dX12_summedBy_85
    · simp only [fa_lt, fa_le, fa_eq] at c_9
      refine lv_bipush (v := 48) hx hb dX12_summedBy_12 (by decide) ?_
      refine lv_iload_n hx hb dX12_summedBy_14 rfl (lv_at hl 1 rfl) ?_
      refine lv_imul hx hb dX12_summedBy_15 ?_
      refine lv_topi (fun v15 e_v15 => ?_)
      have e_v15 : v15.toInt = 48 * a1.toInt := ml_i e_v15 li_48 rfl (by omega) (by omega)
      refine lv_iconst (v := 4) hx hb dX12_summedBy_16 (by decide) ?_
      refine lv_iload_n hx hb dX12_summedBy_17 rfl (lv_at hl 2 rfl) ?_
      refine lv_imul hx hb dX12_summedBy_18 ?_
      refine lv_topi (fun v18 e_v18 => ?_)
      have e_v18 : v18.toInt = 4 * p2_l2.toInt := ml_i e_v18 li_4 rfl (by omega) (by omega)
      refine lv_iadd hx hb dX12_summedBy_19 ?_
      refine lv_topi (fun v19 e_v19 => ?_)
      have e_v19 : v19.toInt = v15.toInt + v18.toInt := ad_i e_v19 rfl rfl (by omega) (by omega)
      refine lv_istore_n (lv' := [(3, .int v19), (0, .ref a0), (1, .int a1), (2, .int p2_l2)]) hx hb dX12_summedBy_20 rfl hl (by decide) rfl (fun ls hl => ?_)
      refine lv_aload_n hx hb dX12_summedBy_21 rfl (lv_at hl 1 rfl) ?_
      refine t_getr (k1 := 57) (ci := 12) (C := RX12) (T := TX12) (N := 38) hx hb hts iX12 hown hw k_a0 rfl rfl rfl 5 (by decide) (hts _ tw_1130) (fun _ h9 => h9) dX12_summedBy_22 rfl (fun v22 k_v22 f_a0_X12_5 => ?_)
      refine lv_iload_n hx hb dX12_summedBy_25 rfl (lv_at hl 0 rfl) ?_
      refine lv_iconst (v := 2) hx hb dX12_summedBy_26 (by decide) ?_
      refine lv_iadd hx hb dX12_summedBy_27 ?_
      refine lv_topi (fun v27 e_v27 => ?_)
      have e_v27 : v27.toInt = v19.toInt + 2 := ad_i e_v27 rfl li_2 (by omega) (by omega)
      refine t_iald hx hb hw k_v22 rfl rfl (by omega) (show v27.toInt < 288 by omega) dX12_summedBy_28 (fun v28 r_v28 s_v28 q_v28 => ?_)
      have l_v28 : (-1) ≤ v28.toInt := r_v28
      have h_v28 : v28.toInt ≤ 400 := s_v28
      have J58 : ∀ (H : Heap) (locs : List Loc) (ls : Array Slot) (w58 : va_W), tW (dC, dI) tys κ B A s w58 H locs → Sm [(12, 18)] [61] κ ws w58 → fld w58 a0 12 5 (.ref v22) → fld w58 a0 12 6 (.ref v4) → lv_has ls 4 [(0, .ref a0), (1, .int a1), (2, .int p2_l2), (3, .int v19)] → W p l e (headSpec (ws_u yX12_summedBy cX12_summedBy 4 (some .long)) ({ frames := 13, cells := 0, slots := 0, locals := 430 })).room s m ([.ref a0, .int a1] : List Value).toArray below meth c H locs 0 0 QQ (F0 m 58 ls []) := by
        intro H locs ls w58 hw hM f_a0_X12_5 f_a0_X12_6 hl
        refine lv_aload_n hx hb dX12_summedBy_58 rfl (lv_at hl 0 rfl) ?_
        refine lv_iload_n hx hb dX12_summedBy_59 rfl (lv_at hl 1 rfl) ?_
        refine lv_aload_n hx hb dX12_summedBy_60 rfl (lv_at hl 0 rfl) ?_
        refine t_getk (ci := 12) (C := RX12) (T := TX12) (N := 38) hx hb hts iX12 hown hw rfl 5 (by decide) (hts _ tw_1130) (fun _ h9 => h9) dX12_summedBy_61 f_a0_X12_5 ?_
        refine lv_iload_n hx hb dX12_summedBy_64 rfl (lv_at hl 3 rfl) ?_
        refine t_iald hx hb hw k_v22 rfl rfl (by omega) (show v19.toInt < 288 by omega) dX12_summedBy_65 (fun v65 r_v65 s_v65 q_v65 => ?_)
        have l_v65 : (-1) ≤ v65.toInt := r_v65
        have h_v65 : v65.toInt ≤ 400 := s_v65
        refine lv_aload_n hx hb dX12_summedBy_66 rfl (lv_at hl 0 rfl) ?_
        refine t_getk (ci := 12) (C := RX12) (T := TX12) (N := 38) hx hb hts iX12 hown hw rfl 5 (by decide) (hts _ tw_1130) (fun _ h9 => h9) dX12_summedBy_67 f_a0_X12_5 ?_
        refine lv_iload_n hx hb dX12_summedBy_70 rfl (lv_at hl 3 rfl) ?_
        refine lv_iconst (v := 1) hx hb dX12_summedBy_71 (by decide) ?_
        refine lv_iadd hx hb dX12_summedBy_72 ?_
        refine lv_topi (fun v72 e_v72 => ?_)
        have e_v72 : v72.toInt = v19.toInt + 1 := ad_i e_v72 rfl li_1 (by omega) (by omega)
        refine t_iald hx hb hw k_v22 rfl rfl (by omega) (show v72.toInt < 288 by omega) dX12_summedBy_73 (fun v73 r_v73 s_v73 q_v73 => ?_)
        have l_v73 : (-1) ≤ v73.toInt := r_v73
        have h_v73 : v73.toInt ≤ 400 := s_v73
        refine t_calll (va_runV (As := [.int a1, .int v65, .int v73]) (rest := []) ⟨hx, hb, hml, hown, hts⟩ (t_X12_reckons l dC dI tys κ B w58 hw.2.2.2.2 a0 k_a0 a1 (by omega) (by omega) v65 (by omega) (by omega) v73 (by omega) (by omega) H.size) (cwV 3 hts (gUV tw_1533 tw_1535 ts_6_7 tw_13 tw_1536) rfl rfl rfl (by decide +kernel) ⟨(Nat.le_of_ble_eq_true rfl), (Nat.le_of_ble_eq_true rfl)⟩) ⟨cPre.blind, t_recv hw (ci := 12) k_a0 rfl rfl, cPre.use hw.2.1 hw.1 hw.2.2.1 hE⟩ rfl rfl hl.1 rfl (lv_room (Nat.le_of_ble_eq_true rfl)) dX12_summedBy_74 ⟨(Nat.le_of_ble_eq_true rfl), (Nat.le_of_ble_eq_true rfl)⟩) hw hA (fun _ _ h => h.1) (fun v74 w_1 H locs hp hw => ?_)
        obtain ⟨_, hm⟩ := hp
        have hM := hM.trans hm (by decide) (by decide)
        have f_a0_X12_5 := hm.1 _ _ _ _ f_a0_X12_5 (by decide)
        have f_a0_X12_6 := hm.1 _ _ _ _ f_a0_X12_6 (by decide)
        rw [hQ]
        refine W.widen (k := 0) (n := 0) (Nat.le_refl _) (Nat.le_refl _) ?_
        exact W.lret (v := v74) hx hb hr (fun t ht hW => ⟨⟨v74, w_1, rfl, ⟨hw.2.2.2.2, hM⟩, by rw [ht]; exact hw.2.1, va_K.moved hW.alike hw.1, hw.2.2.1⟩, hw.2.2.2.1.F ht⟩) hw.2.2.2.1.2.2 dX12_summedBy_77
      refine lv_if_lt (tgt := 58) hx hb dX12_summedBy_29 (by decide) (fun c_29 => ?_) (fun c_29 => ?_)
      · simp only [fa_lt, fa_le, fa_eq, li_0] at c_29
        exact J58 _ _ _ w2 hw hM f_a0_X12_5 f_a0_X12_6 (lv_sub hl [1, 2, 3, 0] rfl)
      · simp only [fa_lt, fa_le, fa_eq, li_0] at c_29
        refine lv_aload_n hx hb dX12_summedBy_32 rfl (lv_at hl 1 rfl) ?_
        refine lv_iload_n hx hb dX12_summedBy_33 rfl (lv_at hl 2 rfl) ?_
        refine lv_aload_n hx hb dX12_summedBy_34 rfl (lv_at hl 1 rfl) ?_
        refine t_getk (ci := 12) (C := RX12) (T := TX12) (N := 38) hx hb hts iX12 hown hw rfl 5 (by decide) (hts _ tw_1130) (fun _ h9 => h9) dX12_summedBy_35 f_a0_X12_5 ?_
        refine lv_iload_n hx hb dX12_summedBy_38 rfl (lv_at hl 0 rfl) ?_
        refine lv_iconst (v := 2) hx hb dX12_summedBy_39 (by decide) ?_
        refine lv_iadd hx hb dX12_summedBy_40 ?_
        refine lv_topi (fun v40 e_v40 => ?_)
        have e_v40 : v40.toInt = v19.toInt + 2 := ad_i e_v40 rfl li_2 (by omega) (by omega)
        refine t_iald hx hb hw k_v22 rfl rfl (by omega) (show v40.toInt < 288 by omega) dX12_summedBy_41 (fun v41 r_v41 s_v41 q_v41 => ?_)
        have l_v41 : (-1) ≤ v41.toInt := r_v41
        have h_v41 : v41.toInt ≤ 400 := s_v41
        refine lv_aload_n hx hb dX12_summedBy_42 rfl (lv_at hl 1 rfl) ?_
        refine t_getk (ci := 12) (C := RX12) (T := TX12) (N := 38) hx hb hts iX12 hown hw rfl 5 (by decide) (hts _ tw_1130) (fun _ h9 => h9) dX12_summedBy_43 f_a0_X12_5 ?_
        refine lv_iload_n hx hb dX12_summedBy_46 rfl (lv_at hl 0 rfl) ?_
        refine lv_iconst (v := 3) hx hb dX12_summedBy_47 (by decide) ?_
        refine lv_iadd hx hb dX12_summedBy_48 ?_
        refine lv_topi (fun v48 e_v48 => ?_)
        have e_v48 : v48.toInt = v19.toInt + 3 := ad_i e_v48 rfl li_3 (by omega) (by omega)
        refine t_iald hx hb hw k_v22 rfl rfl (by omega) (show v48.toInt < 288 by omega) dX12_summedBy_49 (fun v49 r_v49 s_v49 q_v49 => ?_)
        have l_v49 : (-1) ≤ v49.toInt := r_v49
        have h_v49 : v49.toInt ≤ 400 := s_v49
        refine t_calll (va_runV (As := [.int a1, .int v41, .int v49]) (rest := []) ⟨hx, hb, hml, hown, hts⟩ (t_X12_reckons l dC dI tys κ B w2 hw.2.2.2.2 a0 k_a0 a1 (by omega) (by omega) v41 (by omega) (by omega) v49 (by omega) (by omega) H.size) (cwV 3 hts (gUV tw_1533 tw_1535 ts_6_7 tw_13 tw_1536) rfl rfl rfl (by decide +kernel) ⟨(Nat.le_of_ble_eq_true rfl), (Nat.le_of_ble_eq_true rfl)⟩) ⟨cPre.blind, t_recv hw (ci := 12) k_a0 rfl rfl, cPre.use hw.2.1 hw.1 hw.2.2.1 hE⟩ rfl rfl hl.1 rfl (lv_room (Nat.le_of_ble_eq_true rfl)) dX12_summedBy_50 ⟨(Nat.le_of_ble_eq_true rfl), (Nat.le_of_ble_eq_true rfl)⟩) hw hA (fun _ _ h => h.1) (fun v50 w_2 H locs hp hw => ?_)
        obtain ⟨_, hm⟩ := hp
        have hM := hM.trans hm (by decide) (by decide)
        have f_a0_X12_6 := hm.1 _ _ _ _ f_a0_X12_6 (by decide)
        have f_a0_X12_5 := hm.1 _ _ _ _ f_a0_X12_5 (by decide)
        refine lv_lconst (v := 1) hx hb dX12_summedBy_53 (by decide) ?_
        obtain ⟨v53, e_v53⟩ : ∃ y : Int64, y = 1 := ⟨_, rfl⟩
        refine W.eq (g2 := F0 m 54 ls [.long v53, .long v50]) (by rw [e_v53]) ?_
        have t_v53 : v53.toInt = 1 := by rw [e_v53]; decide
        refine W.lcmp hx hb dX12_summedBy_54 ?_
        refine lv_topi (fun v54 e_v54 => ?_)
        have l_v54 := i32_lo v54
        have h_v54 := i32_hi v54
        have g_v54 := lgc e_v54
        refine lv_if_ne (tgt := 78) hx hb dX12_summedBy_55 (by decide) (fun c_55 => ?_) (fun c_55 => ?_)
        · simp only [fa_lt, fa_le, fa_eq, li_0] at c_55
          obtain ⟨v78, e_v78⟩ : ∃ y : Int32, y = p2_l2 + 1 := ⟨_, rfl⟩
          refine lv_iinc (v := v78) (lv' := [(2, .int v78), (3, .int v19), (0, .ref a0), (1, .int a1)]) hx hb dX12_summedBy_78 hl (k := 3) rfl e_v78.symm (by decide) rfl (fun ls hl => ?_)
          have e_v78 : v78.toInt = p2_l2.toInt + 1 := ad_i e_v78 rfl li_1 (by omega) (by omega)
          refine lv_goto (tgt := 2) hx hb dX12_summedBy_81 (by decide) ?_
          exact ih_2 _ _ _ _ (by omega) ⟨w_2, v78, hw, hM, (by omega), (by omega), (lv_sub hl [2, 3, 0] rfl), rfl⟩
        · simp only [fa_lt, fa_le, fa_eq, li_0] at c_55
          exact J58 _ _ _ w_2 hw hM f_a0_X12_5 f_a0_X12_6 (lv_sub hl [1, 2, 3, 0] rfl)
  exact J2 _ _ _ _ ⟨ws, 0, hw, hM, (by decide), (by decide), (lv_sub hl [1, 2, 0] rfl), rfl⟩
set_option maxHeartbeats 4000000 in
set_option maxRecDepth 100000 in
theorem t_X12_wants (l : Launch) (dC : Nat → ClassId) (dI : Nat → Nat → Nat) (tys : List (ClassId × FieldType)) (κ : tK) (B : Nat) (ws : va_W) (hT : Ty κ tys B ws) (a0 : Nat) (k_a0 : κ a0 = some 12) (a1 : Int32) (l_a1 : 0 ≤ a1.toInt) (h_a1 : a1.toInt ≤ 5) (a2 : Int32) (l_a2 : 0 ≤ a2.toInt) (h_a2 : a2.toInt ≤ 5) (sz : Nat) : Met l yX12_wants (ws_u yX12_wants cX12_wants 4 (some .long)) ({ frames := 14, cells := 0, slots := 0, locals := 453 }) (va_Pc [.ref a0, .int a1, .int a2] (cPre (dC, dI) tys ws sz)) (va_Ql (fun (r : Int64) (w : va_W) => Ty κ tys B w ∧ Sm [(12, 18)] [61, 62] κ ws w) (fun w t => cPost (dC, dI) tys w (va_A ws sz) t) (va_A ws sz)) 0 0 (va_A ws sz) := by
  refine Met.ofW (cc := cX12_wants) (maxL := 4) (ret := (some .long)) (by decide) rfl ?_
  intro p e s m args below meth c s₁ B0 hml hv
  obtain ⟨rfl, hsz, hP, hK, hD0, hE⟩ := hv
  have hx := B0.exec
  have hb := B0.bytes
  have hr := B0.returns
  have hts0 := atoms_spec (ws := ws_u yX12_wants cX12_wants 4 (some .long)) B0.pre
  have hts : ∀ w ∈ gT, w.before _ s = true := fun w h => hts0 w (List.mem_cons_of_mem _ h)
  have hown : s.vm.findClass RX12 = some m.cls := findClass_of_methodNamed B0.named
  have hlocks := B0.notSynchronized
  subst hsz
  have hD := hD0.self (sz := s.heap.size)
  generalize hAe : va_A ws s.heap.size = A at hD ⊢
  have hA : ∀ q : Nat, s.heap.size ≤ q → A q := fun q h => by rw [← hAe]; exact Or.inr h
  have hw : tW (dC, dI) tys κ B A s ws s.heap [] := ⟨hK, hP, hD, va_S.rf, hT⟩
  have hM : Sm [(12, 18)] [61, 62] κ ws ws := Sm.rf
  clear hP hK hD hD0 hts0
  have hl := lv_entry ([.ref a0, .int a1, .int a2]) (n := 4) (Nat.le_of_ble_eq_true rfl)
  rw [lg_entry_eq]
  generalize (lg_sl ([.ref a0, .int a1, .int a2]) ++ List.replicate (4 - (lg_sl ([.ref a0, .int a1, .int a2])).length) Slot.unset).toArray = ls at hl ⊢
  have hl : lv_has ls 4 [(0, .ref a0), (1, .int a1), (2, .int a2)] := hl
  refine t_start (fun QQ hQ => ?_)
  refine lv_aload_n hx hb dX12_wants_0 rfl (lv_at hl 0 rfl) ?_
  refine t_getr (k1 := 63) (ci := 12) (C := RX12) (T := TX12) (N := 38) hx hb hts iX12 hown hw k_a0 rfl rfl rfl 20 (by decide) (hts _ tw_1145) (fun _ h9 => h9) dX12_wants_1 rfl (fun v1 k_v1 f_a0_X12_20 => ?_)
  refine lv_bipush (v := 70) hx hb dX12_wants_4 (by decide) ?_
  refine lv_bipush (v := 6) hx hb dX12_wants_6 (by decide) ?_
  refine lv_iload_n hx hb dX12_wants_8 rfl (lv_at hl 1 rfl) ?_
  refine lv_imul hx hb dX12_wants_9 ?_
  refine lv_topi (fun v9 e_v9 => ?_)
  have e_v9 : v9.toInt = 6 * a1.toInt := ml_i e_v9 li_6 rfl (by omega) (by omega)
  refine lv_iadd hx hb dX12_wants_10 ?_
  refine lv_topi (fun v10 e_v10 => ?_)
  have e_v10 : v10.toInt = 70 + v9.toInt := ad_i e_v10 li_70 rfl (by omega) (by omega)
  refine lv_iload_n hx hb dX12_wants_11 rfl (lv_at hl 2 rfl) ?_
  refine lv_iadd hx hb dX12_wants_12 ?_
  refine lv_topi (fun v12 e_v12 => ?_)
  have e_v12 : v12.toInt = v10.toInt + a2.toInt := ad_i e_v12 rfl rfl (by omega) (by omega)
  refine t_iald hx hb hw k_v1 rfl rfl (by omega) (show v12.toInt < 306 by omega) dX12_wants_13 (fun v13 r_v13 s_v13 q_v13 => ?_)
  have l_v13 := i32_lo v13
  have h_v13 := i32_hi v13
  refine lv_istore_n (lv' := [(3, .int v13), (0, .ref a0), (1, .int a1), (2, .int a2)]) hx hb dX12_wants_14 rfl hl (by decide) rfl (fun ls hl => ?_)
  refine lv_aload_n hx hb dX12_wants_15 rfl (lv_at hl 1 rfl) ?_
  refine t_geti (ci := 12) (C := RX12) (T := TX12) (N := 38) hx hb hts iX12 hown hw k_a0 rfl rfl rfl 21 (by decide) (hts _ tw_1146) (fun _ h9 => h9) dX12_wants_16 rfl (fun v16 l_v16 h_v16 f_a0_X12_21 => ?_)
  have l_v16 : (-1) ≤ v16.toInt := l_v16
  have h_v16 : v16.toInt ≤ 5 := h_v16
  refine lv_if_ge (tgt := 32) hx hb dX12_wants_19 (by decide) (fun c_19 => ?_) (fun c_19 => ?_)
  · simp only [fa_lt, fa_le, fa_eq, li_0] at c_19
    refine lv_aload_n hx hb dX12_wants_32 rfl (lv_at hl 1 rfl) ?_
    refine t_getr (k1 := 62) (ci := 12) (C := RX12) (T := TX12) (N := 38) hx hb hts iX12 hown hw k_a0 rfl rfl rfl 19 (by decide) (hts _ tw_1144) (fun _ h9 => h9) dX12_wants_33 rfl (fun v33 k_v33 f_a0_X12_19 => ?_)
    refine lv_iconst (v := 0) hx hb dX12_wants_36 (by decide) ?_
    refine lv_iload_n hx hb dX12_wants_37 rfl (lv_at hl 2 rfl) ?_
    refine lv_i2l hx hb dX12_wants_38 rfl ?_
    refine lv_topl (fun v38 e_v38 => ?_)
    have t_v38 : v38.toInt = a1.toInt := by rw [e_v38, Int32.toInt_toInt64]
    refine t_last hx hb hw k_v33 rfl rfl (by decide) (by decide) dX12_wants_39 (fun w_1 H locs y hw u => ?_)
    have hM := hM.up2 u k_v33 (by decide)
    have f_a0_X12_20 := u.1 _ _ _ _ f_a0_X12_20
    have f_a0_X12_21 := u.1 _ _ _ _ f_a0_X12_21
    have f_a0_X12_19 := u.1 _ _ _ _ f_a0_X12_19
    refine lv_aload_n hx hb dX12_wants_40 rfl (lv_at hl 1 rfl) ?_
    refine t_getk (ci := 12) (C := RX12) (T := TX12) (N := 38) hx hb hts iX12 hown hw rfl 19 (by decide) (hts _ tw_1144) (fun _ h9 => h9) dX12_wants_41 f_a0_X12_19 ?_
    refine lv_iconst (v := 1) hx hb dX12_wants_44 (by decide) ?_
    refine lv_iload_n hx hb dX12_wants_45 rfl (lv_at hl 3 rfl) ?_
    refine lv_i2l hx hb dX12_wants_46 rfl ?_
    refine lv_topl (fun v46 e_v46 => ?_)
    have t_v46 : v46.toInt = a2.toInt := by rw [e_v46, Int32.toInt_toInt64]
    refine t_last hx hb hw k_v33 rfl rfl (by decide) (by decide) dX12_wants_47 (fun w_2 H locs y hw u => ?_)
    have hM := hM.up2 u k_v33 (by decide)
    have f_a0_X12_20 := u.1 _ _ _ _ f_a0_X12_20
    have f_a0_X12_21 := u.1 _ _ _ _ f_a0_X12_21
    have f_a0_X12_19 := u.1 _ _ _ _ f_a0_X12_19
    refine lv_aload_n hx hb dX12_wants_48 rfl (lv_at hl 1 rfl) ?_
    refine t_getk (ci := 12) (C := RX12) (T := TX12) (N := 38) hx hb hts iX12 hown hw rfl 19 (by decide) (hts _ tw_1144) (fun _ h9 => h9) dX12_wants_49 f_a0_X12_19 ?_
    refine lv_iconst (v := 2) hx hb dX12_wants_52 (by decide) ?_
    refine lv_aload_n hx hb dX12_wants_53 rfl (lv_at hl 1 rfl) ?_
    refine lv_iload_n hx hb dX12_wants_54 rfl (lv_at hl 3 rfl) ?_
    refine lv_iconst (v := 0) hx hb dX12_wants_55 (by decide) ?_
    refine t_calli (va_runV (As := [.int a2, .int 0]) (rest := [.int 2, .ref v33]) ⟨hx, hb, hml, hown, hts⟩ (t_X12_boyOf l dC dI tys κ B w_2 hw.2.2.2.2 a0 k_a0 a2 (by omega) (by omega) 0 (by decide) (by decide) H.size) (cwV 2 hts (gUV tw_1453 tw_1455 ts_5_8 tw_13 tw_1456) rfl rfl rfl (by decide +kernel) ⟨(Nat.le_of_ble_eq_true rfl), (Nat.le_of_ble_eq_true rfl)⟩) ⟨cPre.blind, t_recv hw (ci := 12) k_a0 rfl rfl, cPre.use hw.2.1 hw.1 hw.2.2.1 hE⟩ rfl rfl hl.1 rfl (lv_room (Nat.le_of_ble_eq_true rfl)) dX12_wants_56 ⟨(Nat.le_of_ble_eq_true rfl), (Nat.le_of_ble_eq_true rfl)⟩) hw hA (fun _ _ h => h.1) (fun v56 w_3 H locs hp hw => ?_)
    obtain ⟨_, hm⟩ := hp
    have l_v56 := i32_lo v56
    have h_v56 := i32_hi v56
    have hM := hM.trans hm (by decide) (by decide)
    have f_a0_X12_20 := hm.1 _ _ _ _ f_a0_X12_20 (by decide)
    have f_a0_X12_21 := hm.1 _ _ _ _ f_a0_X12_21 (by decide)
    have f_a0_X12_19 := hm.1 _ _ _ _ f_a0_X12_19 (by decide)
    refine lv_i2l hx hb dX12_wants_59 rfl ?_
    refine lv_topl (fun v59 e_v59 => ?_)
    have t_v59 : v59.toInt = v56.toInt := by rw [e_v59, Int32.toInt_toInt64]
    refine t_last hx hb hw k_v33 rfl rfl (by decide) (by decide) dX12_wants_60 (fun w_4 H locs y hw u => ?_)
    have hM := hM.up2 u k_v33 (by decide)
    have f_a0_X12_20 := u.1 _ _ _ _ f_a0_X12_20
    have f_a0_X12_21 := u.1 _ _ _ _ f_a0_X12_21
    have f_a0_X12_19 := u.1 _ _ _ _ f_a0_X12_19
    refine lv_aload_n hx hb dX12_wants_61 rfl (lv_at hl 1 rfl) ?_
    refine t_getk (ci := 12) (C := RX12) (T := TX12) (N := 38) hx hb hts iX12 hown hw rfl 19 (by decide) (hts _ tw_1144) (fun _ h9 => h9) dX12_wants_62 f_a0_X12_19 ?_
    refine lv_iconst (v := 3) hx hb dX12_wants_65 (by decide) ?_
    refine lv_aload_n hx hb dX12_wants_66 rfl (lv_at hl 1 rfl) ?_
    refine lv_iload_n hx hb dX12_wants_67 rfl (lv_at hl 3 rfl) ?_
    refine lv_iconst (v := 1) hx hb dX12_wants_68 (by decide) ?_
    refine t_calli (va_runV (As := [.int a2, .int 1]) (rest := [.int 3, .ref v33]) ⟨hx, hb, hml, hown, hts⟩ (t_X12_boyOf l dC dI tys κ B w_4 hw.2.2.2.2 a0 k_a0 a2 (by omega) (by omega) 1 (by decide) (by decide) H.size) (cwV 2 hts (gUV tw_1453 tw_1455 ts_5_8 tw_13 tw_1456) rfl rfl rfl (by decide +kernel) ⟨(Nat.le_of_ble_eq_true rfl), (Nat.le_of_ble_eq_true rfl)⟩) ⟨cPre.blind, t_recv hw (ci := 12) k_a0 rfl rfl, cPre.use hw.2.1 hw.1 hw.2.2.1 hE⟩ rfl rfl hl.1 rfl (lv_room (Nat.le_of_ble_eq_true rfl)) dX12_wants_69 ⟨(Nat.le_of_ble_eq_true rfl), (Nat.le_of_ble_eq_true rfl)⟩) hw hA (fun _ _ h => h.1) (fun v69 w_5 H locs hp hw => ?_)
    obtain ⟨_, hm⟩ := hp
    have l_v69 := i32_lo v69
    have h_v69 := i32_hi v69
    have hM := hM.trans hm (by decide) (by decide)
    have f_a0_X12_20 := hm.1 _ _ _ _ f_a0_X12_20 (by decide)
    have f_a0_X12_21 := hm.1 _ _ _ _ f_a0_X12_21 (by decide)
    have f_a0_X12_19 := hm.1 _ _ _ _ f_a0_X12_19 (by decide)
    refine lv_i2l hx hb dX12_wants_72 rfl ?_
    refine lv_topl (fun v72 e_v72 => ?_)
    have t_v72 : v72.toInt = v69.toInt := by rw [e_v72, Int32.toInt_toInt64]
    refine t_last hx hb hw k_v33 rfl rfl (by decide) (by decide) dX12_wants_73 (fun w_6 H locs y hw u => ?_)
    have hM := hM.up2 u k_v33 (by decide)
    have f_a0_X12_20 := u.1 _ _ _ _ f_a0_X12_20
    have f_a0_X12_21 := u.1 _ _ _ _ f_a0_X12_21
    have f_a0_X12_19 := u.1 _ _ _ _ f_a0_X12_19
    refine lv_aload_n hx hb dX12_wants_74 rfl (lv_at hl 1 rfl) ?_
    refine t_getk (ci := 12) (C := RX12) (T := TX12) (N := 38) hx hb hts iX12 hown hw rfl 19 (by decide) (hts _ tw_1144) (fun _ h9 => h9) dX12_wants_75 f_a0_X12_19 ?_
    refine lv_iconst (v := 4) hx hb dX12_wants_78 (by decide) ?_
    refine lv_iload_n hx hb dX12_wants_79 rfl (lv_at hl 0 rfl) ?_
    refine lv_i2l hx hb dX12_wants_80 rfl ?_
    refine lv_topl (fun v80 e_v80 => ?_)
    have t_v80 : v80.toInt = v13.toInt := by rw [e_v80, Int32.toInt_toInt64]
    refine t_last hx hb hw k_v33 rfl rfl (by decide) (by decide) dX12_wants_81 (fun w_7 H locs y hw u => ?_)
    have hM := hM.up2 u k_v33 (by decide)
    have f_a0_X12_20 := u.1 _ _ _ _ f_a0_X12_20
    have f_a0_X12_21 := u.1 _ _ _ _ f_a0_X12_21
    have f_a0_X12_19 := u.1 _ _ _ _ f_a0_X12_19
    refine lv_aload_n hx hb dX12_wants_82 rfl (lv_at hl 1 rfl) ?_
    refine t_getk (ci := 12) (C := RX12) (T := TX12) (N := 38) hx hb hts iX12 hown hw rfl 19 (by decide) (hts _ tw_1144) (fun _ h9 => h9) dX12_wants_83 f_a0_X12_19 ?_
    refine lv_iconst (v := 5) hx hb dX12_wants_86 (by decide) ?_
    refine lv_aload_n hx hb dX12_wants_87 rfl (lv_at hl 1 rfl) ?_
    refine t_getk (ci := 12) (C := RX12) (T := TX12) (N := 38) hx hb hts iX12 hown hw rfl 20 (by decide) (hts _ tw_1145) (fun _ h9 => h9) dX12_wants_88 f_a0_X12_20 ?_
    refine lv_bipush (v := 52) hx hb dX12_wants_91 (by decide) ?_
    refine lv_iload_n hx hb dX12_wants_93 rfl (lv_at hl 3 rfl) ?_
    refine lv_iadd hx hb dX12_wants_94 ?_
    refine lv_topi (fun v94 e_v94 => ?_)
    have e_v94 : v94.toInt = 52 + a2.toInt := ad_i e_v94 li_52 rfl (by omega) (by omega)
    refine t_iald hx hb hw k_v1 rfl rfl (by omega) (show v94.toInt < 306 by omega) dX12_wants_95 (fun v95 r_v95 s_v95 q_v95 => ?_)
    have l_v95 := i32_lo v95
    have h_v95 := i32_hi v95
    refine lv_i2l hx hb dX12_wants_96 rfl ?_
    refine lv_topl (fun v96 e_v96 => ?_)
    have t_v96 : v96.toInt = v95.toInt := by rw [e_v96, Int32.toInt_toInt64]
    refine t_last hx hb hw k_v33 rfl rfl (by decide) (by decide) dX12_wants_97 (fun w_8 H locs y hw u => ?_)
    have hM := hM.up2 u k_v33 (by decide)
    have f_a0_X12_20 := u.1 _ _ _ _ f_a0_X12_20
    have f_a0_X12_21 := u.1 _ _ _ _ f_a0_X12_21
    have f_a0_X12_19 := u.1 _ _ _ _ f_a0_X12_19
    refine lv_aload_n hx hb dX12_wants_98 rfl (lv_at hl 1 rfl) ?_
    refine t_getk (ci := 12) (C := RX12) (T := TX12) (N := 38) hx hb hts iX12 hown hw rfl 19 (by decide) (hts _ tw_1144) (fun _ h9 => h9) dX12_wants_99 f_a0_X12_19 ?_
    refine lv_bipush (v := 6) hx hb dX12_wants_102 (by decide) ?_
    refine lv_aload_n hx hb dX12_wants_104 rfl (lv_at hl 1 rfl) ?_
    refine lv_iload_n hx hb dX12_wants_105 rfl (lv_at hl 3 rfl) ?_
    refine lv_iconst (v := 2) hx hb dX12_wants_106 (by decide) ?_
    refine t_calli (va_runV (As := [.int a2, .int 2]) (rest := [.int 6, .ref v33]) ⟨hx, hb, hml, hown, hts⟩ (t_X12_boyOf l dC dI tys κ B w_8 hw.2.2.2.2 a0 k_a0 a2 (by omega) (by omega) 2 (by decide) (by decide) H.size) (cwV 2 hts (gUV tw_1453 tw_1455 ts_5_8 tw_13 tw_1456) rfl rfl rfl (by decide +kernel) ⟨(Nat.le_of_ble_eq_true rfl), (Nat.le_of_ble_eq_true rfl)⟩) ⟨cPre.blind, t_recv hw (ci := 12) k_a0 rfl rfl, cPre.use hw.2.1 hw.1 hw.2.2.1 hE⟩ rfl rfl hl.1 rfl (lv_room (Nat.le_of_ble_eq_true rfl)) dX12_wants_107 ⟨(Nat.le_of_ble_eq_true rfl), (Nat.le_of_ble_eq_true rfl)⟩) hw hA (fun _ _ h => h.1) (fun v107 w_9 H locs hp hw => ?_)
    obtain ⟨_, hm⟩ := hp
    have l_v107 := i32_lo v107
    have h_v107 := i32_hi v107
    have hM := hM.trans hm (by decide) (by decide)
    have f_a0_X12_20 := hm.1 _ _ _ _ f_a0_X12_20 (by decide)
    have f_a0_X12_21 := hm.1 _ _ _ _ f_a0_X12_21 (by decide)
    have f_a0_X12_19 := hm.1 _ _ _ _ f_a0_X12_19 (by decide)
    refine lv_i2l hx hb dX12_wants_110 rfl ?_
    refine lv_topl (fun v110 e_v110 => ?_)
    have t_v110 : v110.toInt = v107.toInt := by rw [e_v110, Int32.toInt_toInt64]
    refine t_last hx hb hw k_v33 rfl rfl (by decide) (by decide) dX12_wants_111 (fun w_10 H locs y hw u => ?_)
    have hM := hM.up2 u k_v33 (by decide)
    have f_a0_X12_20 := u.1 _ _ _ _ f_a0_X12_20
    have f_a0_X12_21 := u.1 _ _ _ _ f_a0_X12_21
    have f_a0_X12_19 := u.1 _ _ _ _ f_a0_X12_19
    refine lv_aload_n hx hb dX12_wants_112 rfl (lv_at hl 1 rfl) ?_
    refine t_getk (ci := 12) (C := RX12) (T := TX12) (N := 38) hx hb hts iX12 hown hw rfl 19 (by decide) (hts _ tw_1144) (fun _ h9 => h9) dX12_wants_113 f_a0_X12_19 ?_
    refine lv_bipush (v := 7) hx hb dX12_wants_116 (by decide) ?_
    refine lv_iload_n hx hb dX12_wants_118 rfl (lv_at hl 2 rfl) ?_
    refine lv_iload_n hx hb dX12_wants_119 rfl (lv_at hl 3 rfl) ?_
    have J128 : ∀ (H : Heap) (locs : List Loc) (ls : Array Slot) (w128 : va_W) (p128_s0 : Int64), tW (dC, dI) tys κ B A s w128 H locs → Sm [(12, 18)] [61, 62] κ ws w128 → fld w128 a0 12 19 (.ref v33) → fld w128 a0 12 20 (.ref v1) → fld w128 a0 12 21 (.int v16) → lv_has ls 4 [(0, .ref a0), (1, .int a1), (2, .int a2), (3, .int v13)] → W p l e (headSpec (ws_u yX12_wants cX12_wants 4 (some .long)) ({ frames := 14, cells := 0, slots := 0, locals := 453 })).room s m ([.ref a0, .int a1, .int a2] : List Value).toArray below meth c H locs 0 0 QQ (F0 m 128 ls [.long p128_s0, .int 7, .ref v33]) := by
      intro H locs ls w128 p128_s0 hw hM f_a0_X12_19 f_a0_X12_20 f_a0_X12_21 hl
      refine t_last hx hb hw k_v33 rfl rfl (by decide) (by decide) dX12_wants_128 (fun w_11 H locs y hw u => ?_)
      have hM := hM.up2 u k_v33 (by decide)
      have f_a0_X12_19 := u.1 _ _ _ _ f_a0_X12_19
      have f_a0_X12_20 := u.1 _ _ _ _ f_a0_X12_20
      have f_a0_X12_21 := u.1 _ _ _ _ f_a0_X12_21
      refine lv_aload_n hx hb dX12_wants_129 rfl (lv_at hl 0 rfl) ?_
      refine t_getk (ci := 12) (C := RX12) (T := TX12) (N := 38) hx hb hts iX12 hown hw rfl 19 (by decide) (hts _ tw_1144) (fun _ h9 => h9) dX12_wants_130 f_a0_X12_19 ?_
      refine lv_bipush (v := 8) hx hb dX12_wants_133 (by decide) ?_
      refine lv_aload_n hx hb dX12_wants_135 rfl (lv_at hl 0 rfl) ?_
      refine t_getk (ci := 12) (C := RX12) (T := TX12) (N := 38) hx hb hts iX12 hown hw rfl 20 (by decide) (hts _ tw_1145) (fun _ h9 => h9) dX12_wants_136 f_a0_X12_20 ?_
      refine lv_bipush (v := 10) hx hb dX12_wants_139 (by decide) ?_
      refine t_iald hx hb hw k_v1 rfl rfl (by decide) (by decide) dX12_wants_141 (fun v141 r_v141 s_v141 f_v1_M_said_10 => ?_)
      have l_v141 : 0 ≤ v141.toInt := by rw [iv_63_10] at r_v141; exact r_v141
      have h_v141 : v141.toInt ≤ 1999 := by rw [iv_63_10] at s_v141; exact s_v141
      refine lv_i2l hx hb dX12_wants_142 rfl ?_
      refine lv_topl (fun v142 e_v142 => ?_)
      have t_v142 : v142.toInt = v141.toInt := by rw [e_v142, Int32.toInt_toInt64]
      refine t_last hx hb hw k_v33 rfl rfl (by decide) (by decide) dX12_wants_143 (fun w_12 H locs y hw u => ?_)
      have hM := hM.up2 u k_v33 (by decide)
      have f_a0_X12_19 := u.1 _ _ _ _ f_a0_X12_19
      have f_a0_X12_20 := u.1 _ _ _ _ f_a0_X12_20
      have f_a0_X12_21 := u.1 _ _ _ _ f_a0_X12_21
      have f_v1_M_said_10 := u.elt f_v1_M_said_10 (ne_k k_v1 k_v33 (by decide))
      refine lv_aload_n hx hb dX12_wants_144 rfl (lv_at hl 0 rfl) ?_
      refine t_getk (ci := 12) (C := RX12) (T := TX12) (N := 38) hx hb hts iX12 hown hw rfl 19 (by decide) (hts _ tw_1144) (fun _ h9 => h9) dX12_wants_145 f_a0_X12_19 ?_
      refine lv_bipush (v := 9) hx hb dX12_wants_148 (by decide) ?_
      refine lv_aload_n hx hb dX12_wants_150 rfl (lv_at hl 0 rfl) ?_
      refine t_getk (ci := 12) (C := RX12) (T := TX12) (N := 38) hx hb hts iX12 hown hw rfl 20 (by decide) (hts _ tw_1145) (fun _ h9 => h9) dX12_wants_151 f_a0_X12_20 ?_
      refine lv_bipush (v := 13) hx hb dX12_wants_154 (by decide) ?_
      refine t_iald hx hb hw k_v1 rfl rfl (by decide) (by decide) dX12_wants_156 (fun v156 r_v156 s_v156 f_v1_M_said_13 => ?_)
      have l_v156 := i32_lo v156
      have h_v156 := i32_hi v156
      refine lv_i2l hx hb dX12_wants_157 rfl ?_
      refine lv_topl (fun v157 e_v157 => ?_)
      have t_v157 : v157.toInt = v156.toInt := by rw [e_v157, Int32.toInt_toInt64]
      refine t_last hx hb hw k_v33 rfl rfl (by decide) (by decide) dX12_wants_158 (fun w_13 H locs y hw u => ?_)
      have hM := hM.up2 u k_v33 (by decide)
      have f_a0_X12_19 := u.1 _ _ _ _ f_a0_X12_19
      have f_a0_X12_20 := u.1 _ _ _ _ f_a0_X12_20
      have f_a0_X12_21 := u.1 _ _ _ _ f_a0_X12_21
      have f_v1_M_said_10 := u.elt f_v1_M_said_10 (ne_k k_v1 k_v33 (by decide))
      have f_v1_M_said_13 := u.elt f_v1_M_said_13 (ne_k k_v1 k_v33 (by decide))
      refine lv_aload_n hx hb dX12_wants_159 rfl (lv_at hl 0 rfl) ?_
      refine t_getk (ci := 12) (C := RX12) (T := TX12) (N := 38) hx hb hts iX12 hown hw rfl 19 (by decide) (hts _ tw_1144) (fun _ h9 => h9) dX12_wants_160 f_a0_X12_19 ?_
      refine lv_bipush (v := 10) hx hb dX12_wants_163 (by decide) ?_
      refine lv_aload_n hx hb dX12_wants_165 rfl (lv_at hl 0 rfl) ?_
      refine t_calli (va_runV (As := []) (rest := [.int 10, .ref v33]) ⟨hx, hb, hml, hown, hts⟩ (t_X12_soundMany l dC dI tys κ B w_13 hw.2.2.2.2 a0 k_a0 H.size) (cwV 0 hts (gUV tw_1525 tw_1527 ts_6_5 tw_13 tw_1528) rfl rfl rfl (by decide +kernel) ⟨(Nat.le_of_ble_eq_true rfl), (Nat.le_of_ble_eq_true rfl)⟩) ⟨cPre.blind, t_recv hw (ci := 12) k_a0 rfl rfl, cPre.use hw.2.1 hw.1 hw.2.2.1 hE⟩ rfl rfl hl.1 rfl (lv_room (Nat.le_of_ble_eq_true rfl)) dX12_wants_166 ⟨(Nat.le_of_ble_eq_true rfl), (Nat.le_of_ble_eq_true rfl)⟩) hw hA (fun _ _ h => h.1) (fun v166 w_14 H locs hp hw => ?_)
      obtain ⟨_, hm⟩ := hp
      have l_v166 := i32_lo v166
      have h_v166 := i32_hi v166
      have hM := hM.trans hm (by decide) (by decide)
      have f_a0_X12_19 := hm.1 _ _ _ _ f_a0_X12_19 (by decide)
      have f_a0_X12_20 := hm.1 _ _ _ _ f_a0_X12_20 (by decide)
      have f_a0_X12_21 := hm.1 _ _ _ _ f_a0_X12_21 (by decide)
      have f_v1_M_said_10 := hm.elt k_v1 (by decide) f_v1_M_said_10
      have f_v1_M_said_13 := hm.elt k_v1 (by decide) f_v1_M_said_13
      refine lv_i2l hx hb dX12_wants_169 rfl ?_
      refine lv_topl (fun v169 e_v169 => ?_)
      have t_v169 : v169.toInt = v166.toInt := by rw [e_v169, Int32.toInt_toInt64]
      refine t_last hx hb hw k_v33 rfl rfl (by decide) (by decide) dX12_wants_170 (fun w_15 H locs y hw u => ?_)
      have hM := hM.up2 u k_v33 (by decide)
      have f_a0_X12_19 := u.1 _ _ _ _ f_a0_X12_19
      have f_a0_X12_20 := u.1 _ _ _ _ f_a0_X12_20
      have f_a0_X12_21 := u.1 _ _ _ _ f_a0_X12_21
      have f_v1_M_said_10 := u.elt f_v1_M_said_10 (ne_k k_v1 k_v33 (by decide))
      have f_v1_M_said_13 := u.elt f_v1_M_said_13 (ne_k k_v1 k_v33 (by decide))
      refine lv_aload_n hx hb dX12_wants_171 rfl (lv_at hl 0 rfl) ?_
      refine lv_aload_n hx hb dX12_wants_172 rfl (lv_at hl 0 rfl) ?_
      refine t_getk (ci := 12) (C := RX12) (T := TX12) (N := 38) hx hb hts iX12 hown hw rfl 21 (by decide) (hts _ tw_1146) (fun _ h9 => h9) dX12_wants_173 f_a0_X12_21 ?_
      refine t_calll (va_runV (As := [.int v16]) (rest := []) ⟨hx, hb, hml, hown, hts⟩ (t_X12_summedBy l dC dI tys κ B w_15 hw.2.2.2.2 a0 k_a0 v16 (by omega) (by omega) H.size) (cwV 1 hts (gUV tw_1529 tw_1531 ts_6_6 tw_13 tw_1532) rfl rfl rfl (by decide +kernel) ⟨(Nat.le_of_ble_eq_true rfl), (Nat.le_of_ble_eq_true rfl)⟩) ⟨cPre.blind, t_recv hw (ci := 12) k_a0 rfl rfl, cPre.use hw.2.1 hw.1 hw.2.2.1 hE⟩ rfl rfl hl.1 rfl (lv_room (Nat.le_of_ble_eq_true rfl)) dX12_wants_176 ⟨(Nat.le_of_ble_eq_true rfl), (Nat.le_of_ble_eq_true rfl)⟩) hw hA (fun _ _ h => h.1) (fun v176 w_16 H locs hp hw => ?_)
      obtain ⟨_, hm⟩ := hp
      have hM := hM.trans hm (by decide) (by decide)
      have f_a0_X12_19 := hm.1 _ _ _ _ f_a0_X12_19 (by decide)
      have f_a0_X12_20 := hm.1 _ _ _ _ f_a0_X12_20 (by decide)
      have f_a0_X12_21 := hm.1 _ _ _ _ f_a0_X12_21 (by decide)
      have f_v1_M_said_10 := hm.elt k_v1 (by decide) f_v1_M_said_10
      have f_v1_M_said_13 := hm.elt k_v1 (by decide) f_v1_M_said_13
      rw [hQ]
      refine W.widen (k := 0) (n := 0) (Nat.le_refl _) (Nat.le_refl _) ?_
      exact W.lret (v := v176) hx hb hr (fun t ht hW => ⟨⟨v176, w_16, rfl, ⟨hw.2.2.2.2, hM⟩, by rw [ht]; exact hw.2.1, va_K.moved hW.alike hw.1, hw.2.2.1⟩, hw.2.2.2.1.F ht⟩) hw.2.2.2.1.2.2 dX12_wants_179
    refine lv_icmp_ne (tgt := 127) hx hb dX12_wants_120 (by decide) (fun c_120 => ?_) (fun c_120 => ?_)
    · simp only [fa_lt, fa_le, fa_eq] at c_120
      refine lv_lconst (v := 0) hx hb dX12_wants_127 (by decide) ?_
      obtain ⟨v127, e_v127⟩ : ∃ y : Int64, y = 0 := ⟨_, rfl⟩
      refine W.eq (g2 := F0 m 128 ls [.long v127, .int 7, .ref v33]) (by rw [e_v127]) ?_
      have t_v127 : v127.toInt = 0 := by rw [e_v127]; decide
      exact J128 _ _ _ w_10 v127 hw hM f_a0_X12_19 f_a0_X12_20 f_a0_X12_21 (lv_sub hl [1, 2, 3, 0] rfl)
    · simp only [fa_lt, fa_le, fa_eq] at c_120
      refine lv_lconst (v := 1) hx hb dX12_wants_123 (by decide) ?_
      obtain ⟨v123, e_v123⟩ : ∃ y : Int64, y = 1 := ⟨_, rfl⟩
      refine W.eq (g2 := F0 m 124 ls [.long v123, .int 7, .ref v33]) (by rw [e_v123]) ?_
      have t_v123 : v123.toInt = 1 := by rw [e_v123]; decide
      refine lv_goto (tgt := 128) hx hb dX12_wants_124 (by decide) ?_
      exact J128 _ _ _ w_10 v123 hw hM f_a0_X12_19 f_a0_X12_20 f_a0_X12_21 (lv_sub hl [1, 2, 3, 0] rfl)
  · simp only [fa_lt, fa_le, fa_eq, li_0] at c_19
    refine lv_iload_n hx hb dX12_wants_22 rfl (lv_at hl 0 rfl) ?_
    refine lv_aload_n hx hb dX12_wants_23 rfl (lv_at hl 1 rfl) ?_
    refine lv_iload_n hx hb dX12_wants_24 rfl (lv_at hl 3 rfl) ?_
    refine lv_iconst (v := 1) hx hb dX12_wants_25 (by decide) ?_
    refine t_calli (va_runV (As := [.int a2, .int 1]) (rest := [.int v13]) ⟨hx, hb, hml, hown, hts⟩ (t_X12_boyOf l dC dI tys κ B ws hw.2.2.2.2 a0 k_a0 a2 (by omega) (by omega) 1 (by decide) (by decide) s.heap.size) (cwV 2 hts (gUV tw_1453 tw_1455 ts_5_8 tw_13 tw_1456) rfl rfl rfl (by decide +kernel) ⟨(Nat.le_of_ble_eq_true rfl), (Nat.le_of_ble_eq_true rfl)⟩) ⟨cPre.blind, t_recv hw (ci := 12) k_a0 rfl rfl, cPre.use hw.2.1 hw.1 hw.2.2.1 hE⟩ rfl rfl hl.1 rfl (lv_room (Nat.le_of_ble_eq_true rfl)) dX12_wants_26 ⟨(Nat.le_of_ble_eq_true rfl), (Nat.le_of_ble_eq_true rfl)⟩) hw hA (fun _ _ h => h.1) (fun v26 w_17 H locs hp hw => ?_)
    obtain ⟨_, hm⟩ := hp
    have l_v26 := i32_lo v26
    have h_v26 := i32_hi v26
    have hM := hM.trans hm (by decide) (by decide)
    have f_a0_X12_20 := hm.1 _ _ _ _ f_a0_X12_20 (by decide)
    have f_a0_X12_21 := hm.1 _ _ _ _ f_a0_X12_21 (by decide)
    refine lv_iadd hx hb dX12_wants_29 ?_
    refine lv_topi (fun v29 e_v29 => ?_)
    have l_v29 := i32_lo v29
    have h_v29 := i32_hi v29
    refine lv_i2l hx hb dX12_wants_30 rfl ?_
    refine lv_topl (fun v30 e_v30 => ?_)
    have t_v30 : v30.toInt = v29.toInt := by rw [e_v30, Int32.toInt_toInt64]
    rw [hQ]
    refine W.widen (k := 0) (n := 0) (Nat.le_refl _) (Nat.le_refl _) ?_
    exact W.lret (v := v30) hx hb hr (fun t ht hW => ⟨⟨v30, w_17, rfl, ⟨hw.2.2.2.2, hM⟩, by rw [ht]; exact hw.2.1, va_K.moved hW.alike hw.1, hw.2.2.1⟩, hw.2.2.2.1.F ht⟩) hw.2.2.2.1.2.2 dX12_wants_31
set_option maxHeartbeats 4000000 in
set_option maxRecDepth 100000 in
theorem t_X12_votesFor (l : Launch) (dC : Nat → ClassId) (dI : Nat → Nat → Nat) (tys : List (ClassId × FieldType)) (κ : tK) (B : Nat) (ws : va_W) (hT : Ty κ tys B ws) (a0 : Nat) (k_a0 : κ a0 = some 12) (a1 : Int32) (l_a1 : 0 ≤ a1.toInt) (h_a1 : a1.toInt ≤ 5) (sz : Nat) : Met l yX12_votesFor (ws_u yX12_votesFor cX12_votesFor 8 (some .int)) ({ frames := 15, cells := 0, slots := 0, locals := 476 }) (va_Pc [.ref a0, .int a1] (cPre (dC, dI) tys ws sz)) (va_Qi (fun (r : Int32) (w : va_W) => (-1) ≤ r.toInt ∧ r.toInt ≤ 5 ∧ Ty κ tys B w ∧ Sm [(12, 18)] [61, 62] κ ws w) (fun w t => cPost (dC, dI) tys w (va_A ws sz) t) (va_A ws sz)) 0 0 (va_A ws sz) := by
  refine Met.ofW (cc := cX12_votesFor) (maxL := 8) (ret := (some .int)) (by decide) rfl ?_
  intro p e s m args below meth c s₁ B0 hml hv
  obtain ⟨rfl, hsz, hP, hK, hD0, hE⟩ := hv
  have hx := B0.exec
  have hb := B0.bytes
  have hr := B0.returns
  have hts0 := atoms_spec (ws := ws_u yX12_votesFor cX12_votesFor 8 (some .int)) B0.pre
  have hts : ∀ w ∈ gT, w.before _ s = true := fun w h => hts0 w (List.mem_cons_of_mem _ h)
  have hown : s.vm.findClass RX12 = some m.cls := findClass_of_methodNamed B0.named
  have hlocks := B0.notSynchronized
  subst hsz
  have hD := hD0.self (sz := s.heap.size)
  generalize hAe : va_A ws s.heap.size = A at hD ⊢
  have hA : ∀ q : Nat, s.heap.size ≤ q → A q := fun q h => by rw [← hAe]; exact Or.inr h
  have hw : tW (dC, dI) tys κ B A s ws s.heap [] := ⟨hK, hP, hD, va_S.rf, hT⟩
  have hM : Sm [(12, 18)] [61, 62] κ ws ws := Sm.rf
  clear hP hK hD hD0 hts0
  have hl := lv_entry ([.ref a0, .int a1]) (n := 8) (Nat.le_of_ble_eq_true rfl)
  rw [lg_entry_eq]
  generalize (lg_sl ([.ref a0, .int a1]) ++ List.replicate (8 - (lg_sl ([.ref a0, .int a1])).length) Slot.unset).toArray = ls at hl ⊢
  have hl : lv_has ls 8 [(0, .ref a0), (1, .int a1)] := hl
  refine t_start (fun QQ hQ => ?_)
  refine lv_iconst (v := (-1)) hx hb dX12_votesFor_0 (by decide) ?_
  refine lv_istore_n (lv' := [(2, .int (-1)), (0, .ref a0), (1, .int a1)]) hx hb dX12_votesFor_1 rfl hl (by decide) rfl (fun ls hl => ?_)
  refine lv_lconst (v := 0) hx hb dX12_votesFor_2 (by decide) ?_
  obtain ⟨v2, e_v2⟩ : ∃ y : Int64, y = 0 := ⟨_, rfl⟩
  refine W.eq (g2 := F0 m 3 ls [.long v2]) (by rw [e_v2]) ?_
  have t_v2 : v2.toInt = 0 := by rw [e_v2]; decide
  refine lv_lstore_n (lv' := [(3, .long v2), (2, .int (-1)), (0, .ref a0), (1, .int a1)]) hx hb dX12_votesFor_3 rfl hl (by decide) rfl (fun ls hl => ?_)
  refine lv_iconst (v := 0) hx hb dX12_votesFor_4 (by decide) ?_
  refine lv_istore (lv' := [(5, .int 0), (3, .long v2), (2, .int (-1)), (0, .ref a0), (1, .int a1)]) hx hb dX12_votesFor_5 hl (by decide) rfl (fun ls hl => ?_)
  have J7 : ∀ (n : Nat) (H : Heap) (locs : List Loc) (ls : Array Slot), (∃ (w7 : va_W) (p7_l2 : Int32) (p7_l3 : Int64) (p7_l5 : Int32), tW (dC, dI) tys κ B A s w7 H locs ∧ Sm [(12, 18)] [61, 62] κ ws w7 ∧ (-1) ≤ p7_l2.toInt ∧ p7_l2.toInt ≤ 5 ∧ 0 ≤ p7_l5.toInt ∧ p7_l5.toInt ≤ 6 ∧ lv_has ls 8 [(0, .ref a0), (1, .int a1), (2, .int p7_l2), (3, .long p7_l3), (5, .int p7_l5)] ∧ (6 - p7_l5.toInt).toNat = n) → W p l e (headSpec (ws_u yX12_votesFor cX12_votesFor 8 (some .int)) ({ frames := 15, cells := 0, slots := 0, locals := 476 })).room s m ([.ref a0, .int a1] : List Value).toArray below meth c H locs 0 0 QQ (F0 m 7 ls []) := by
    refine loopT _ ?_
    intro n_7 H locs ls hI ih_7
    obtain ⟨w7, p7_l2, p7_l3, p7_l5, hw, hM, l_p7_l2, h_p7_l2, l_p7_l5, h_p7_l5, hl, hn_7⟩ := hI
    refine lv_iload hx hb dX12_votesFor_7 (lv_at hl 4 rfl) ?_
    refine lv_aload_n hx hb dX12_votesFor_9 rfl (lv_at hl 0 rfl) ?_
    refine t_getr (k1 := 63) (ci := 12) (C := RX12) (T := TX12) (N := 38) hx hb hts iX12 hown hw k_a0 rfl rfl rfl 20 (by decide) (hts _ tw_1145) (fun _ h9 => h9) dX12_votesFor_10 rfl (fun v10 k_v10 f_a0_X12_20 => ?_)
    refine lv_iconst (v := 3) hx hb dX12_votesFor_13 (by decide) ?_
    refine t_iald hx hb hw k_v10 rfl rfl (by decide) (by decide) dX12_votesFor_14 (fun v14 r_v14 s_v14 f_v10_M_said_3 => ?_)
    have l_v14 : 0 ≤ v14.toInt := by rw [iv_63_3] at r_v14; exact r_v14
    have h_v14 : v14.toInt ≤ 6 := by rw [iv_63_3] at s_v14; exact s_v14
    refine lv_icmp_ge (tgt := 61) hx hb dX12_votesFor_15 (by decide) (fun c_15 => ?_) (fun c_15 => ?_)
    · simp only [fa_lt, fa_le, fa_eq] at c_15
      refine lv_iload_n hx hb dX12_votesFor_61 rfl (lv_at hl 2 rfl) ?_
      rw [hQ]
      refine W.widen (k := 0) (n := 0) (Nat.le_refl _) (Nat.le_refl _) ?_
      exact W.iret (v := p7_l2) hx hb hr (fun t ht hW => ⟨⟨p7_l2, w7, rfl, ⟨(by omega), (by omega), hw.2.2.2.2, hM⟩, by rw [ht]; exact hw.2.1, va_K.moved hW.alike hw.1, hw.2.2.1⟩, hw.2.2.2.1.F ht⟩) hw.2.2.2.1.2.2 dX12_votesFor_62
    · simp only [fa_lt, fa_le, fa_eq] at c_15
      refine lv_aload_n hx hb dX12_votesFor_18 rfl (lv_at hl 0 rfl) ?_
      refine lv_iload hx hb dX12_votesFor_19 (lv_at hl 4 rfl) ?_
      refine t_calli (va_runV (As := [.int p7_l5]) (rest := []) ⟨hx, hb, hml, hown, hts⟩ (t_X12_isSound l dC dI tys κ B w7 hw.2.2.2.2 a0 k_a0 p7_l5 H.size) (cwV 1 hts (gUV tw_1517 tw_1519 ts_6_3 tw_13 tw_1520) rfl rfl rfl (by decide +kernel) ⟨(Nat.le_of_ble_eq_true rfl), (Nat.le_of_ble_eq_true rfl)⟩) ⟨cPre.blind, t_recv hw (ci := 12) k_a0 rfl rfl, cPre.use hw.2.1 hw.1 hw.2.2.1 hE⟩ rfl rfl hl.1 rfl (lv_room (Nat.le_of_ble_eq_true rfl)) dX12_votesFor_21 ⟨(Nat.le_of_ble_eq_true rfl), (Nat.le_of_ble_eq_true rfl)⟩) hw hA (fun _ _ h => h.2.2.1) (fun v21 w_1 H locs hp hw => ?_)
      obtain ⟨l_v21, h_v21, _, hm, x_v21_0⟩ := hp
      have hM := hM.trans hm (by decide) (by decide)
      have f_a0_X12_20 := hm.1 _ _ _ _ f_a0_X12_20 (by decide)
      have f_v10_M_said_3 := hm.elt k_v10 (by decide) f_v10_M_said_3
      have J55 : ∀ (H : Heap) (locs : List Loc) (ls : Array Slot) (w55 : va_W) (p55_l2 : Int32) (p55_l3 : Int64), tW (dC, dI) tys κ B A s w55 H locs → Sm [(12, 18)] [61, 62] κ ws w55 → (-1) ≤ p55_l2.toInt → p55_l2.toInt ≤ 5 → fld w55 a0 12 20 (.ref v10) → elt w55 v10 (3 : Int32).toInt.toNat v14 → lv_has ls 8 [(0, .ref a0), (1, .int a1), (2, .int p55_l2), (3, .long p55_l3), (5, .int p7_l5)] → W p l e (headSpec (ws_u yX12_votesFor cX12_votesFor 8 (some .int)) ({ frames := 15, cells := 0, slots := 0, locals := 476 })).room s m ([.ref a0, .int a1] : List Value).toArray below meth c H locs 0 0 QQ (F0 m 55 ls []) := by
        intro H locs ls w55 p55_l2 p55_l3 hw hM l_p55_l2 h_p55_l2 f_a0_X12_20 f_v10_M_said_3 hl
        obtain ⟨v55, e_v55⟩ : ∃ y : Int32, y = p7_l5 + 1 := ⟨_, rfl⟩
        refine lv_iinc (v := v55) (lv' := [(5, .int v55), (0, .ref a0), (1, .int a1), (2, .int p55_l2), (3, .long p55_l3)]) hx hb dX12_votesFor_55 hl (k := 4) rfl e_v55.symm (by decide) rfl (fun ls hl => ?_)
        have e_v55 : v55.toInt = p7_l5.toInt + 1 := ad_i e_v55 rfl li_1 (by omega) (by omega)
        refine lv_goto (tgt := 7) hx hb dX12_votesFor_58 (by decide) ?_
        exact ih_7 _ _ _ _ (by omega) ⟨w55, p55_l2, p55_l3, v55, hw, hM, (by omega), (by omega), (by omega), (by omega), (lv_sub hl [1, 2, 3, 4, 0] rfl), rfl⟩
      refine lv_if_ne (tgt := 30) hx hb dX12_votesFor_24 (by decide) (fun c_24 => ?_) (fun c_24 => ?_)
      · simp only [fa_lt, fa_le, fa_eq, li_0] at c_24
        refine lv_aload_n hx hb dX12_votesFor_30 rfl (lv_at hl 0 rfl) ?_
        refine lv_iload_n hx hb dX12_votesFor_31 rfl (lv_at hl 1 rfl) ?_
        refine lv_iload hx hb dX12_votesFor_32 (lv_at hl 4 rfl) ?_
        refine t_calll (va_runV (As := [.int a1, .int p7_l5]) (rest := []) ⟨hx, hb, hml, hown, hts⟩ (t_X12_wants l dC dI tys κ B w_1 hw.2.2.2.2 a0 k_a0 a1 (by omega) (by omega) p7_l5 (by omega) (by omega) H.size) (cwV 2 hts (gUV tw_1521 tw_1523 ts_6_4 tw_13 tw_1524) rfl rfl rfl (by decide +kernel) ⟨(Nat.le_of_ble_eq_true rfl), (Nat.le_of_ble_eq_true rfl)⟩) ⟨cPre.blind, t_recv hw (ci := 12) k_a0 rfl rfl, cPre.use hw.2.1 hw.1 hw.2.2.1 hE⟩ rfl rfl hl.1 rfl (lv_room (Nat.le_of_ble_eq_true rfl)) dX12_votesFor_34 ⟨(Nat.le_of_ble_eq_true rfl), (Nat.le_of_ble_eq_true rfl)⟩) hw hA (fun _ _ h => h.1) (fun v34 w_2 H locs hp hw => ?_)
        obtain ⟨_, hm⟩ := hp
        have hM := hM.trans hm (by decide) (by decide)
        have f_a0_X12_20 := hm.1 _ _ _ _ f_a0_X12_20 (by decide)
        have f_v10_M_said_3 := hm.elt k_v10 (by decide) f_v10_M_said_3
        refine lv_lstore (lv' := [(6, .long v34), (0, .ref a0), (1, .int a1), (2, .int p7_l2), (3, .long p7_l3), (5, .int p7_l5)]) hx hb dX12_votesFor_37 hl (by decide) rfl (fun ls hl => ?_)
        refine lv_lload hx hb dX12_votesFor_39 (lv_at hl 0 rfl) ?_
        refine lv_lload_n hx hb dX12_votesFor_41 rfl (lv_at hl 4 rfl) ?_
        refine W.lcmp hx hb dX12_votesFor_42 ?_
        refine lv_topi (fun v42 e_v42 => ?_)
        have l_v42 := i32_lo v42
        have h_v42 := i32_hi v42
        have g_v42 := lgc e_v42
        refine lv_if_gt (tgt := 49) hx hb dX12_votesFor_43 (by decide) (fun c_43 => ?_) (fun c_43 => ?_)
        · simp only [fa_lt, fa_le, fa_eq, li_0] at c_43
          refine lv_iload hx hb dX12_votesFor_49 (lv_at hl 5 rfl) ?_
          refine lv_istore_n (lv' := [(2, .int p7_l5), (6, .long v34), (0, .ref a0), (1, .int a1), (3, .long p7_l3), (5, .int p7_l5)]) hx hb dX12_votesFor_51 rfl hl (by decide) rfl (fun ls hl => ?_)
          refine lv_lload hx hb dX12_votesFor_52 (lv_at hl 1 rfl) ?_
          refine lv_lstore_n (lv' := [(3, .long v34), (2, .int p7_l5), (6, .long v34), (0, .ref a0), (1, .int a1), (5, .int p7_l5)]) hx hb dX12_votesFor_54 rfl hl (by decide) rfl (fun ls hl => ?_)
          exact J55 _ _ _ w_2 p7_l5 v34 hw hM (by omega) (by omega) f_a0_X12_20 f_v10_M_said_3 (lv_sub hl [3, 4, 1, 0, 5] rfl)
        · simp only [fa_lt, fa_le, fa_eq, li_0] at c_43
          refine lv_goto (tgt := 55) hx hb dX12_votesFor_46 (by decide) ?_
          exact J55 _ _ _ w_2 p7_l2 p7_l3 hw hM (by omega) (by omega) f_a0_X12_20 f_v10_M_said_3 (lv_sub hl [1, 2, 3, 4, 5] rfl)
      · simp only [fa_lt, fa_le, fa_eq, li_0] at c_24
        refine lv_goto (tgt := 55) hx hb dX12_votesFor_27 (by decide) ?_
        exact J55 _ _ _ w_1 p7_l2 p7_l3 hw hM (by omega) (by omega) f_a0_X12_20 f_v10_M_said_3 (lv_sub hl [0, 1, 2, 3, 4] rfl)
  exact J7 _ _ _ _ ⟨ws, (-1), v2, 0, hw, hM, (by decide), (by decide), (by decide), (by decide), (lv_sub hl [3, 4, 2, 1, 0] rfl), rfl⟩
set_option maxHeartbeats 4000000 in
set_option maxRecDepth 100000 in
theorem t_X12_fillsVotes (l : Launch) (dC : Nat → ClassId) (dI : Nat → Nat → Nat) (tys : List (ClassId × FieldType)) (κ : tK) (B : Nat) (ws : va_W) (hT : Ty κ tys B ws) (a0 : Nat) (k_a0 : κ a0 = some 12) (sz : Nat) : Met l yX12_fillsVotes (ws_u yX12_fillsVotes cX12_fillsVotes 2 none) ({ frames := 16, cells := 0, slots := 0, locals := 503 }) (va_Pc [.ref a0] (cPre (dC, dI) tys ws sz)) (va_Qv (fun (w : va_W) => Ty κ tys B w ∧ Sm [(12, 18)] [61, 62, 64] κ ws w) (fun w t => cPost (dC, dI) tys w (va_A ws sz) t) (va_A ws sz)) 0 0 (va_A ws sz) := by
  refine Met.ofW (cc := cX12_fillsVotes) (maxL := 2) (ret := none) (by decide) rfl ?_
  intro p e s m args below meth c s₁ B0 hml hv
  obtain ⟨rfl, hsz, hP, hK, hD0, hE⟩ := hv
  have hx := B0.exec
  have hb := B0.bytes
  have hr := B0.returns
  have hts0 := atoms_spec (ws := ws_u yX12_fillsVotes cX12_fillsVotes 2 none) B0.pre
  have hts : ∀ w ∈ gT, w.before _ s = true := fun w h => hts0 w (List.mem_cons_of_mem _ h)
  have hown : s.vm.findClass RX12 = some m.cls := findClass_of_methodNamed B0.named
  have hlocks := B0.notSynchronized
  subst hsz
  have hD := hD0.self (sz := s.heap.size)
  generalize hAe : va_A ws s.heap.size = A at hD ⊢
  have hA : ∀ q : Nat, s.heap.size ≤ q → A q := fun q h => by rw [← hAe]; exact Or.inr h
  have hw : tW (dC, dI) tys κ B A s ws s.heap [] := ⟨hK, hP, hD, va_S.rf, hT⟩
  have hM : Sm [(12, 18)] [61, 62, 64] κ ws ws := Sm.rf
  clear hP hK hD hD0 hts0
  have hl := lv_entry ([.ref a0]) (n := 2) (Nat.le_of_ble_eq_true rfl)
  rw [lg_entry_eq]
  generalize (lg_sl ([.ref a0]) ++ List.replicate (2 - (lg_sl ([.ref a0])).length) Slot.unset).toArray = ls at hl ⊢
  have hl : lv_has ls 2 [(0, .ref a0)] := hl
  refine t_start (fun QQ hQ => ?_)
  refine lv_iconst (v := 0) hx hb dX12_fillsVotes_0 (by decide) ?_
  refine lv_istore_n (lv' := [(1, .int 0), (0, .ref a0)]) hx hb dX12_fillsVotes_1 rfl hl (by decide) rfl (fun ls hl => ?_)
  have J2 : ∀ (n : Nat) (H : Heap) (locs : List Loc) (ls : Array Slot), (∃ (w2 : va_W) (p2_l1 : Int32), tW (dC, dI) tys κ B A s w2 H locs ∧ Sm [(12, 18)] [61, 62, 64] κ ws w2 ∧ 0 ≤ p2_l1.toInt ∧ p2_l1.toInt ≤ 6 ∧ lv_has ls 2 [(0, .ref a0), (1, .int p2_l1)] ∧ (6 - p2_l1.toInt).toNat = n) → W p l e (headSpec (ws_u yX12_fillsVotes cX12_fillsVotes 2 none) ({ frames := 16, cells := 0, slots := 0, locals := 503 })).room s m ([.ref a0] : List Value).toArray below meth c H locs 0 0 QQ (F0 m 2 ls []) := by
    refine loopT _ ?_
    intro n_2 H locs ls hI ih_2
    obtain ⟨w2, p2_l1, hw, hM, l_p2_l1, h_p2_l1, hl, hn_2⟩ := hI
    refine lv_iload_n hx hb dX12_fillsVotes_2 rfl (lv_at hl 1 rfl) ?_
    refine lv_aload_n hx hb dX12_fillsVotes_3 rfl (lv_at hl 0 rfl) ?_
    refine t_getr (k1 := 63) (ci := 12) (C := RX12) (T := TX12) (N := 38) hx hb hts iX12 hown hw k_a0 rfl rfl rfl 20 (by decide) (hts _ tw_1145) (fun _ h9 => h9) dX12_fillsVotes_4 rfl (fun v4 k_v4 f_a0_X12_20 => ?_)
    refine lv_iconst (v := 3) hx hb dX12_fillsVotes_7 (by decide) ?_
    refine t_iald hx hb hw k_v4 rfl rfl (by decide) (by decide) dX12_fillsVotes_8 (fun v8 r_v8 s_v8 f_v4_M_said_3 => ?_)
    have l_v8 : 0 ≤ v8.toInt := by rw [iv_63_3] at r_v8; exact r_v8
    have h_v8 : v8.toInt ≤ 6 := by rw [iv_63_3] at s_v8; exact s_v8
    refine lv_icmp_ge (tgt := 29) hx hb dX12_fillsVotes_9 (by decide) (fun c_9 => ?_) (fun c_9 => ?_)
    · simp only [fa_lt, fa_le, fa_eq] at c_9
      rw [hQ]
      refine W.widen (k := 0) (n := 0) (Nat.le_refl _) (Nat.le_refl _) ?_
      exact W.vret hx hb hr (fun t ht hW => ⟨⟨w2, rfl, ⟨hw.2.2.2.2, hM⟩, by rw [ht]; exact hw.2.1, va_K.moved hW.alike hw.1, hw.2.2.1⟩, hw.2.2.2.1.F ht⟩) hw.2.2.2.1.2.2 dX12_fillsVotes_29
    · simp only [fa_lt, fa_le, fa_eq] at c_9
      refine lv_aload_n hx hb dX12_fillsVotes_12 rfl (lv_at hl 0 rfl) ?_
      refine t_getr (k1 := 64) (ci := 12) (C := RX12) (T := TX12) (N := 38) hx hb hts iX12 hown hw k_a0 rfl rfl rfl 23 (by decide) (hts _ tw_1148) (fun _ h9 => h9) dX12_fillsVotes_13 rfl (fun v13 k_v13 f_a0_X12_23 => ?_)
      refine lv_iload_n hx hb dX12_fillsVotes_16 rfl (lv_at hl 1 rfl) ?_
      refine lv_aload_n hx hb dX12_fillsVotes_17 rfl (lv_at hl 0 rfl) ?_
      refine lv_iload_n hx hb dX12_fillsVotes_18 rfl (lv_at hl 1 rfl) ?_
      refine t_calli (va_runV (As := [.int p2_l1]) (rest := [.int p2_l1, .ref v13]) ⟨hx, hb, hml, hown, hts⟩ (t_X12_votesFor l dC dI tys κ B w2 hw.2.2.2.2 a0 k_a0 p2_l1 (by omega) (by omega) H.size) (cwV 1 hts (gUV tw_1513 tw_1515 ts_6_2 tw_13 tw_1516) rfl rfl rfl (by decide +kernel) ⟨(Nat.le_of_ble_eq_true rfl), (Nat.le_of_ble_eq_true rfl)⟩) ⟨cPre.blind, t_recv hw (ci := 12) k_a0 rfl rfl, cPre.use hw.2.1 hw.1 hw.2.2.1 hE⟩ rfl rfl hl.1 rfl (lv_room (Nat.le_of_ble_eq_true rfl)) dX12_fillsVotes_19 ⟨(Nat.le_of_ble_eq_true rfl), (Nat.le_of_ble_eq_true rfl)⟩) hw hA (fun _ _ h => h.2.2.1) (fun v19 w_1 H locs hp hw => ?_)
      obtain ⟨l_v19, h_v19, _, hm⟩ := hp
      have hM := hM.trans hm (by decide) (by decide)
      have f_a0_X12_20 := hm.1 _ _ _ _ f_a0_X12_20 (by decide)
      have f_v4_M_said_3 := hm.elt k_v4 (by decide) f_v4_M_said_3
      have f_a0_X12_23 := hm.1 _ _ _ _ f_a0_X12_23 (by decide)
      refine t_iast hx hb hw k_v13 rfl rfl (by omega) (show p2_l1.toInt < 6 by omega) (i32_lo _) (i32_hi _) dX12_fillsVotes_22 (fun w_2 H locs hw u => ?_)
      have hM := hM.up3 u k_v13 (by decide)
      have f_a0_X12_20 := u.1 _ _ _ _ f_a0_X12_20
      have f_v4_M_said_3 := u.2.2.1 _ _ _ f_v4_M_said_3 (Or.inl (ne_k k_v4 k_v13 (by decide)))
      have f_a0_X12_23 := u.1 _ _ _ _ f_a0_X12_23
      obtain ⟨v23, e_v23⟩ : ∃ y : Int32, y = p2_l1 + 1 := ⟨_, rfl⟩
      refine lv_iinc (v := v23) (lv' := [(1, .int v23), (0, .ref a0)]) hx hb dX12_fillsVotes_23 hl (k := 1) rfl e_v23.symm (by decide) rfl (fun ls hl => ?_)
      have e_v23 : v23.toInt = p2_l1.toInt + 1 := ad_i e_v23 rfl li_1 (by omega) (by omega)
      refine lv_goto (tgt := 2) hx hb dX12_fillsVotes_26 (by decide) ?_
      exact ih_2 _ _ _ _ (by omega) ⟨w_2, v23, hw, hM, (by omega), (by omega), (lv_sub hl [1, 0] rfl), rfl⟩
  exact J2 _ _ _ _ ⟨ws, 0, hw, hM, (by decide), (by decide), (lv_sub hl [1, 0] rfl), rfl⟩
