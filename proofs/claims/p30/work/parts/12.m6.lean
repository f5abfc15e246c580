theorem ts_1_10 : Cond.selects "BoyBishop$Standing" ⟨"BoyBishop$Standing", "fadeVoices", "(LBoyBishop$Choir;)V"⟩ ⟨"BoyBishop$Standing", "fadeVoices", "(LBoyBishop$Choir;)V"⟩ ∈ gT := gT_in (List.mem_append_left _ (List.mem_map.mpr ⟨(⟨"BoyBishop$Standing", "fadeVoices", "(LBoyBishop$Choir;)V"⟩, 13), (List.mem_append_right _ (List.mem_append_left _ (List.mem_of_getElem? (i := 10) rfl))), rfl⟩)) rfl
theorem ts_1_11 : Cond.selects "BoyBishop$Standing" ⟨"BoyBishop$Standing", "endReign", "(LBoyBishop$Choir;)V"⟩ ⟨"BoyBishop$Standing", "endReign", "(LBoyBishop$Choir;)V"⟩ ∈ gT := gT_in (List.mem_append_left _ (List.mem_map.mpr ⟨(⟨"BoyBishop$Standing", "endReign", "(LBoyBishop$Choir;)V"⟩, 13), (List.mem_append_right _ (List.mem_append_left _ (List.mem_of_getElem? (i := 11) rfl))), rfl⟩)) rfl
theorem ts_1_12 : Cond.selects "BoyBishop$Standing" ⟨"BoyBishop$Standing", "growOlder", "(LBoyBishop$Choir;)V"⟩ ⟨"BoyBishop$Standing", "growOlder", "(LBoyBishop$Choir;)V"⟩ ∈ gT := gT_in (List.mem_append_left _ (List.mem_map.mpr ⟨(⟨"BoyBishop$Standing", "growOlder", "(LBoyBishop$Choir;)V"⟩, 13), (List.mem_append_right _ (List.mem_append_left _ (List.mem_of_getElem? (i := 12) rfl))), rfl⟩)) rfl
theorem ts_1_3 : Cond.selects "BoyBishop" ⟨"BoyBishop", "ruleInForce", "()LBoyBishop$Rule;"⟩ ⟨"BoyBishop", "ruleInForce", "()LBoyBishop$Rule;"⟩ ∈ gT := gT_in (List.mem_append_left _ (List.mem_map.mpr ⟨(⟨"BoyBishop", "ruleInForce", "()LBoyBishop$Rule;"⟩, 12), (List.mem_append_right _ (List.mem_append_left _ (List.mem_of_getElem? (i := 3) rfl))), rfl⟩)) rfl
theorem ts_1_9 : Cond.selects "BoyBishop$Standing" ⟨"BoyBishop$Standing", "layBy", "(LBoyBishop$Choir;)V"⟩ ⟨"BoyBishop$Standing", "layBy", "(LBoyBishop$Choir;)V"⟩ ∈ gT := gT_in (List.mem_append_left _ (List.mem_map.mpr ⟨(⟨"BoyBishop$Standing", "layBy", "(LBoyBishop$Choir;)V"⟩, 13), (List.mem_append_right _ (List.mem_append_left _ (List.mem_of_getElem? (i := 9) rfl))), rfl⟩)) rfl
theorem ts_2_0 : Cond.selects "BoyBishop" ⟨"BoyBishop", "canBeAskedAhead", "(II)Z"⟩ ⟨"BoyBishop", "canBeAskedAhead", "(II)Z"⟩ ∈ gT := gT_in (List.mem_append_left _ (List.mem_map.mpr ⟨(⟨"BoyBishop", "canBeAskedAhead", "(II)Z"⟩, 12), (List.mem_append_right _ (List.mem_append_right _ (List.mem_append_left _ (List.mem_of_getElem? (i := 0) rfl)))), rfl⟩)) rfl
theorem tw_11 : (Jvm.Cond.initialized "BoyBishop$Days") ∈ gT := gT_in (List.mem_append_right _ (List.mem_append_left _ (List.mem_of_getElem? (i := 11) rfl))) rfl
theorem tw_1109 : (Jvm.Cond.methodLink "BoyBishop" (373 : Nat) ({ cls := "BoyBishop$Whole", name := "copyFrom", desc := "(LBoyBishop$Whole;)V" } : Jvm.MethodName)) ∈ gT := gT_in (List.mem_append_right _ (List.mem_append_right _ (List.mem_append_right _ (List.mem_append_right _ (List.mem_append_right _ (List.mem_append_left _ (List.mem_of_getElem? (i := 149) rfl))))))) rfl
theorem tw_1110 : (Jvm.Cond.instanceMethod ({ cls := "BoyBishop$Whole", name := "copyFrom", desc := "(LBoyBishop$Whole;)V" } : Jvm.MethodName)) ∈ gT := gT_in (List.mem_append_right _ (List.mem_append_right _ (List.mem_append_right _ (List.mem_append_right _ (List.mem_append_right _ (List.mem_append_left _ (List.mem_of_getElem? (i := 150) rfl))))))) rfl
theorem tw_1111 : (Jvm.Cond.selects "BoyBishop$Whole" ({ cls := "BoyBishop$Whole", name := "copyFrom", desc := "(LBoyBishop$Whole;)V" } : Jvm.MethodName) ({ cls := "BoyBishop$Whole", name := "copyFrom", desc := "(LBoyBishop$Whole;)V" } : Jvm.MethodName)) ∈ gT := gT_in (List.mem_append_right _ (List.mem_append_right _ (List.mem_append_right _ (List.mem_append_right _ (List.mem_append_right _ (List.mem_append_left _ (List.mem_of_getElem? (i := 151) rfl))))))) rfl
theorem tw_1112 : (Jvm.Cond.code ({ cls := "BoyBishop$Whole", name := "copyFrom", desc := "(LBoyBishop$Whole;)V" } : Jvm.MethodName) prog_12_method_2_code (2 : Nat) (Option.none : Option Jvm.ClassFile.FieldType)) ∈ gT := gT_in (List.mem_append_right _ (List.mem_append_right _ (List.mem_append_right _ (List.mem_append_right _ (List.mem_append_right _ (List.mem_append_left _ (List.mem_of_getElem? (i := 152) rfl))))))) rfl
theorem tw_112 : (Jvm.Cond.fieldLink "BoyBishop$Standing" (70 : Nat) "BoyBishop$Choir" "gift" "[I") ∈ gT := gT_in (List.mem_append_right _ (List.mem_append_left _ (List.mem_of_getElem? (i := 112) rfl))) rfl
theorem tw_117 : (Jvm.Cond.fieldLink "BoyBishop$Standing" (93 : Nat) "BoyBishop$Choir" "more" "[I") ∈ gT := gT_in (List.mem_append_right _ (List.mem_append_left _ (List.mem_of_getElem? (i := 117) rfl))) rfl
theorem tw_222 : (Jvm.Cond.fieldLink "BoyBishop" (198 : Nat) "BoyBishop$Standing" "day" "I") ∈ gT := gT_in (List.mem_append_right _ (List.mem_append_left _ (List.mem_of_getElem? (i := 222) rfl))) rfl
theorem tw_224 : (Jvm.Cond.fieldLink "BoyBishop$Days" (15 : Nat) "BoyBishop$Standing" "bishop" "I") ∈ gT := gT_in (List.mem_append_right _ (List.mem_append_left _ (List.mem_of_getElem? (i := 224) rfl))) rfl
theorem tw_226 : (Jvm.Cond.fieldLink "BoyBishop" (213 : Nat) "BoyBishop$Standing" "bishop" "I") ∈ gT := gT_in (List.mem_append_right _ (List.mem_append_left _ (List.mem_of_getElem? (i := 226) rfl))) rfl
theorem tw_241 : (Jvm.Cond.fieldLink "BoyBishop" (142 : Nat) "BoyBishop$Standing" "voice" "[I") ∈ gT := gT_in (List.mem_append_right _ (List.mem_append_right _ (List.mem_append_left _ (List.mem_of_getElem? (i := 1) rfl)))) rfl
theorem tw_253 : (Jvm.Cond.fieldLink "BoyBishop" (182 : Nat) "BoyBishop$Standing" "laid" "[I") ∈ gT := gT_in (List.mem_append_right _ (List.mem_append_right _ (List.mem_append_left _ (List.mem_of_getElem? (i := 13) rfl)))) rfl
theorem tw_285 : (Jvm.Cond.fieldLink "BoyBishop" (115 : Nat) "BoyBishop$Whole" "standing" "LBoyBishop$Standing;") ∈ gT := gT_in (List.mem_append_right _ (List.mem_append_right _ (List.mem_append_left _ (List.mem_of_getElem? (i := 45) rfl)))) rfl
theorem tw_299 : (Jvm.Cond.fieldLink "BoyBishop" (376 : Nat) "BoyBishop$Whole" "made" "Z") ∈ gT := gT_in (List.mem_append_right _ (List.mem_append_right _ (List.mem_append_left _ (List.mem_of_getElem? (i := 59) rfl)))) rfl
theorem tw_329 : (Jvm.Cond.fieldLink "BoyBishop$Past" (24 : Nat) "BoyBishop$Past" "kept" "I") ∈ gT := gT_in (List.mem_append_right _ (List.mem_append_right _ (List.mem_append_left _ (List.mem_of_getElem? (i := 89) rfl)))) rfl
theorem tw_351 : (Jvm.Cond.fieldLink "BoyBishop$Days" (27 : Nat) "BoyBishop$Poll" "chosen" "I") ∈ gT := gT_in (List.mem_append_right _ (List.mem_append_right _ (List.mem_append_left _ (List.mem_of_getElem? (i := 111) rfl)))) rfl
theorem tw_379 : (Jvm.Cond.fieldLink "BoyBishop$Days" (9 : Nat) "BoyBishop$Days" "poll" "LBoyBishop$Poll;") ∈ gT := gT_in (List.mem_append_right _ (List.mem_append_right _ (List.mem_append_left _ (List.mem_of_getElem? (i := 139) rfl)))) rfl
theorem tw_429 : (Jvm.Cond.fieldLink "BoyBishop" (49 : Nat) "BoyBishop" "images" "[LBoyBishop$Whole;") ∈ gT := gT_in (List.mem_append_right _ (List.mem_append_right _ (List.mem_append_left _ (List.mem_of_getElem? (i := 189) rfl)))) rfl
theorem tw_430 : (Jvm.Cond.fieldLink "BoyBishop" (60 : Nat) "BoyBishop" "past" "LBoyBishop$Past;") ∈ gT := gT_in (List.mem_append_right _ (List.mem_append_right _ (List.mem_append_left _ (List.mem_of_getElem? (i := 190) rfl)))) rfl
theorem tw_432 : (Jvm.Cond.fieldLink "BoyBishop" (76 : Nat) "BoyBishop" "days" "LBoyBishop$Days;") ∈ gT := gT_in (List.mem_append_right _ (List.mem_append_right _ (List.mem_append_left _ (List.mem_of_getElem? (i := 192) rfl)))) rfl
theorem tw_434 : (Jvm.Cond.fieldLink "BoyBishop" (92 : Nat) "BoyBishop" "trial" "LBoyBishop$Standing;") ∈ gT := gT_in (List.mem_append_right _ (List.mem_append_right _ (List.mem_append_left _ (List.mem_of_getElem? (i := 194) rfl)))) rfl
theorem tw_625 : (Jvm.Cond.methodLink "BoyBishop" (124 : Nat) ({ cls := "BoyBishop$Past", name := "forget", desc := "()V" } : Jvm.MethodName)) ∈ gT := gT_in (List.mem_append_right _ (List.mem_append_right _ (List.mem_append_right _ (List.mem_append_left _ (List.mem_of_getElem? (i := 145) rfl))))) rfl
theorem tw_626 : (Jvm.Cond.instanceMethod ({ cls := "BoyBishop$Past", name := "forget", desc := "()V" } : Jvm.MethodName)) ∈ gT := gT_in (List.mem_append_right _ (List.mem_append_right _ (List.mem_append_right _ (List.mem_append_left _ (List.mem_of_getElem? (i := 146) rfl))))) rfl
theorem tw_627 : (Jvm.Cond.selects "BoyBishop$Past" ({ cls := "BoyBishop$Past", name := "forget", desc := "()V" } : Jvm.MethodName) ({ cls := "BoyBishop$Past", name := "forget", desc := "()V" } : Jvm.MethodName)) ∈ gT := gT_in (List.mem_append_right _ (List.mem_append_right _ (List.mem_append_right _ (List.mem_append_left _ (List.mem_of_getElem? (i := 147) rfl))))) rfl
theorem tw_628 : (Jvm.Cond.code ({ cls := "BoyBishop$Past", name := "forget", desc := "()V" } : Jvm.MethodName) prog_6_method_4_code (1 : Nat) (Option.none : Option Jvm.ClassFile.FieldType)) ∈ gT := gT_in (List.mem_append_right _ (List.mem_append_right _ (List.mem_append_right _ (List.mem_append_left _ (List.mem_of_getElem? (i := 148) rfl))))) rfl
theorem tw_69 : (Jvm.Cond.fieldLink "BoyBishop" (194 : Nat) "BoyBishop$Choir" "told" "Z") ∈ gT := gT_in (List.mem_append_right _ (List.mem_append_left _ (List.mem_of_getElem? (i := 69) rfl))) rfl
theorem tw_7 : (Jvm.Cond.initialized "BoyBishop$Whole") ∈ gT := gT_in (List.mem_append_right _ (List.mem_append_left _ (List.mem_of_getElem? (i := 7) rfl))) rfl
theorem tw_71 : (Jvm.Cond.fieldLink "BoyBishop$Standing" (111 : Nat) "BoyBishop$Choir" "reign" "I") ∈ gT := gT_in (List.mem_append_right _ (List.mem_append_left _ (List.mem_of_getElem? (i := 71) rfl))) rfl
theorem tw_756 : (Jvm.Cond.methodLink "BoyBishop" (205 : Nat) ({ cls := "BoyBishop", name := "ruleInForce", desc := "()LBoyBishop$Rule;" } : Jvm.MethodName)) ∈ gT := gT_in (List.mem_append_right _ (List.mem_append_right _ (List.mem_append_right _ (List.mem_append_right _ (List.mem_append_left _ (List.mem_of_getElem? (i := 36) rfl)))))) rfl
theorem tw_758 : (Jvm.Cond.instanceMethod ({ cls := "BoyBishop", name := "ruleInForce", desc := "()LBoyBishop$Rule;" } : Jvm.MethodName)) ∈ gT := gT_in (List.mem_append_right _ (List.mem_append_right _ (List.mem_append_right _ (List.mem_append_right _ (List.mem_append_left _ (List.mem_of_getElem? (i := 38) rfl)))))) rfl
theorem tw_759 : (Jvm.Cond.code ({ cls := "BoyBishop", name := "ruleInForce", desc := "()LBoyBishop$Rule;" } : Jvm.MethodName) prog_1_method_46_code (1 : Nat) (Option.some (Jvm.ClassFile.FieldType.object "BoyBishop$Rule"))) ∈ gT := gT_in (List.mem_append_right _ (List.mem_append_right _ (List.mem_append_right _ (List.mem_append_right _ (List.mem_append_left _ (List.mem_of_getElem? (i := 39) rfl)))))) rfl
theorem tw_760 : (Jvm.Cond.methodLink "BoyBishop" (209 : Nat) ({ cls := "BoyBishop$Days", name := "pass", desc := "(LBoyBishop$Choir;LBoyBishop$Standing;LBoyBishop$Rule;)Z" } : Jvm.MethodName)) ∈ gT := gT_in (List.mem_append_right _ (List.mem_append_right _ (List.mem_append_right _ (List.mem_append_right _ (List.mem_append_left _ (List.mem_of_getElem? (i := 40) rfl)))))) rfl
theorem tw_761 : (Jvm.Cond.instanceMethod ({ cls := "BoyBishop$Days", name := "pass", desc := "(LBoyBishop$Choir;LBoyBishop$Standing;LBoyBishop$Rule;)Z" } : Jvm.MethodName)) ∈ gT := gT_in (List.mem_append_right _ (List.mem_append_right _ (List.mem_append_right _ (List.mem_append_right _ (List.mem_append_left _ (List.mem_of_getElem? (i := 41) rfl)))))) rfl
theorem tw_762 : (Jvm.Cond.selects "BoyBishop$Days" ({ cls := "BoyBishop$Days", name := "pass", desc := "(LBoyBishop$Choir;LBoyBishop$Standing;LBoyBishop$Rule;)Z" } : Jvm.MethodName) ({ cls := "BoyBishop$Days", name := "pass", desc := "(LBoyBishop$Choir;LBoyBishop$Standing;LBoyBishop$Rule;)Z" } : Jvm.MethodName)) ∈ gT := gT_in (List.mem_append_right _ (List.mem_append_right _ (List.mem_append_right _ (List.mem_append_right _ (List.mem_append_left _ (List.mem_of_getElem? (i := 42) rfl)))))) rfl
theorem tw_763 : (Jvm.Cond.code ({ cls := "BoyBishop$Days", name := "pass", desc := "(LBoyBishop$Choir;LBoyBishop$Standing;LBoyBishop$Rule;)Z" } : Jvm.MethodName) prog_5_method_2_code (5 : Nat) (Option.some Jvm.ClassFile.FieldType.boolean)) ∈ gT := gT_in (List.mem_append_right _ (List.mem_append_right _ (List.mem_append_right _ (List.mem_append_right _ (List.mem_append_left _ (List.mem_of_getElem? (i := 43) rfl)))))) rfl
theorem tw_764 : (Jvm.Cond.methodLink "BoyBishop$Days" (21 : Nat) ({ cls := "BoyBishop$Poll", name := "hold", desc := "(LBoyBishop$Choir;LBoyBishop$Standing;LBoyBishop$Rule;)V" } : Jvm.MethodName)) ∈ gT := gT_in (List.mem_append_right _ (List.mem_append_right _ (List.mem_append_right _ (List.mem_append_right _ (List.mem_append_left _ (List.mem_of_getElem? (i := 44) rfl)))))) rfl
theorem tw_765 : (Jvm.Cond.instanceMethod ({ cls := "BoyBishop$Poll", name := "hold", desc := "(LBoyBishop$Choir;LBoyBishop$Standing;LBoyBishop$Rule;)V" } : Jvm.MethodName)) ∈ gT := gT_in (List.mem_append_right _ (List.mem_append_right _ (List.mem_append_right _ (List.mem_append_right _ (List.mem_append_left _ (List.mem_of_getElem? (i := 45) rfl)))))) rfl
theorem tw_766 : (Jvm.Cond.selects "BoyBishop$Poll" ({ cls := "BoyBishop$Poll", name := "hold", desc := "(LBoyBishop$Choir;LBoyBishop$Standing;LBoyBishop$Rule;)V" } : Jvm.MethodName) ({ cls := "BoyBishop$Poll", name := "hold", desc := "(LBoyBishop$Choir;LBoyBishop$Standing;LBoyBishop$Rule;)V" } : Jvm.MethodName)) ∈ gT := gT_in (List.mem_append_right _ (List.mem_append_right _ (List.mem_append_right _ (List.mem_append_right _ (List.mem_append_left _ (List.mem_of_getElem? (i := 46) rfl)))))) rfl
theorem tw_767 : (Jvm.Cond.code ({ cls := "BoyBishop$Poll", name := "hold", desc := "(LBoyBishop$Choir;LBoyBishop$Standing;LBoyBishop$Rule;)V" } : Jvm.MethodName) prog_7_method_2_code (7 : Nat) (Option.none : Option Jvm.ClassFile.FieldType)) ∈ gT := gT_in (List.mem_append_right _ (List.mem_append_right _ (List.mem_append_right _ (List.mem_append_right _ (List.mem_append_left _ (List.mem_of_getElem? (i := 47) rfl)))))) rfl
theorem tw_809 : (Jvm.Cond.methodLink "BoyBishop$Days" (30 : Nat) ({ cls := "BoyBishop$Standing", name := "crown", desc := "(I)V" } : Jvm.MethodName)) ∈ gT := gT_in (List.mem_append_right _ (List.mem_append_right _ (List.mem_append_right _ (List.mem_append_right _ (List.mem_append_left _ (List.mem_of_getElem? (i := 89) rfl)))))) rfl
theorem tw_81 : (Jvm.Cond.fieldLink "BoyBishop$Standing" (102 : Nat) "BoyBishop$Choir" "boys" "I") ∈ gT := gT_in (List.mem_append_right _ (List.mem_append_left _ (List.mem_of_getElem? (i := 81) rfl))) rfl
theorem tw_810 : (Jvm.Cond.instanceMethod ({ cls := "BoyBishop$Standing", name := "crown", desc := "(I)V" } : Jvm.MethodName)) ∈ gT := gT_in (List.mem_append_right _ (List.mem_append_right _ (List.mem_append_right _ (List.mem_append_right _ (List.mem_append_left _ (List.mem_of_getElem? (i := 90) rfl)))))) rfl
theorem tw_811 : (Jvm.Cond.selects "BoyBishop$Standing" ({ cls := "BoyBishop$Standing", name := "crown", desc := "(I)V" } : Jvm.MethodName) ({ cls := "BoyBishop$Standing", name := "crown", desc := "(I)V" } : Jvm.MethodName)) ∈ gT := gT_in (List.mem_append_right _ (List.mem_append_right _ (List.mem_append_right _ (List.mem_append_right _ (List.mem_append_left _ (List.mem_of_getElem? (i := 91) rfl)))))) rfl
theorem tw_812 : (Jvm.Cond.code ({ cls := "BoyBishop$Standing", name := "crown", desc := "(I)V" } : Jvm.MethodName) prog_10_method_4_code (2 : Nat) (Option.none : Option Jvm.ClassFile.FieldType)) ∈ gT := gT_in (List.mem_append_right _ (List.mem_append_right _ (List.mem_append_right _ (List.mem_append_right _ (List.mem_append_left _ (List.mem_of_getElem? (i := 92) rfl)))))) rfl
theorem tw_813 : (Jvm.Cond.methodLink "BoyBishop$Days" (34 : Nat) ({ cls := "BoyBishop$Standing", name := "endDay", desc := "(LBoyBishop$Choir;)V" } : Jvm.MethodName)) ∈ gT := gT_in (List.mem_append_right _ (List.mem_append_right _ (List.mem_append_right _ (List.mem_append_right _ (List.mem_append_left _ (List.mem_of_getElem? (i := 93) rfl)))))) rfl
theorem tw_814 : (Jvm.Cond.instanceMethod ({ cls := "BoyBishop$Standing", name := "endDay", desc := "(LBoyBishop$Choir;)V" } : Jvm.MethodName)) ∈ gT := gT_in (List.mem_append_right _ (List.mem_append_right _ (List.mem_append_right _ (List.mem_append_right _ (List.mem_append_left _ (List.mem_of_getElem? (i := 94) rfl)))))) rfl
theorem tw_815 : (Jvm.Cond.selects "BoyBishop$Standing" ({ cls := "BoyBishop$Standing", name := "endDay", desc := "(LBoyBishop$Choir;)V" } : Jvm.MethodName) ({ cls := "BoyBishop$Standing", name := "endDay", desc := "(LBoyBishop$Choir;)V" } : Jvm.MethodName)) ∈ gT := gT_in (List.mem_append_right _ (List.mem_append_right _ (List.mem_append_right _ (List.mem_append_right _ (List.mem_append_left _ (List.mem_of_getElem? (i := 95) rfl)))))) rfl
theorem tw_816 : (Jvm.Cond.code ({ cls := "BoyBishop$Standing", name := "endDay", desc := "(LBoyBishop$Choir;)V" } : Jvm.MethodName) prog_10_method_5_code (2 : Nat) (Option.none : Option Jvm.ClassFile.FieldType)) ∈ gT := gT_in (List.mem_append_right _ (List.mem_append_right _ (List.mem_append_right _ (List.mem_append_right _ (List.mem_append_left _ (List.mem_of_getElem? (i := 96) rfl)))))) rfl
theorem tw_817 : (Jvm.Cond.methodLink "BoyBishop$Standing" (73 : Nat) ({ cls := "BoyBishop$Choir", name := "snowsOn", desc := "(I)Z" } : Jvm.MethodName)) ∈ gT := gT_in (List.mem_append_right _ (List.mem_append_right _ (List.mem_append_right _ (List.mem_append_right _ (List.mem_append_left _ (List.mem_of_getElem? (i := 97) rfl)))))) rfl
theorem tw_821 : (Jvm.Cond.methodLink "BoyBishop$Standing" (77 : Nat) ({ cls := "BoyBishop$Standing", name := "layBy", desc := "(LBoyBishop$Choir;)V" } : Jvm.MethodName)) ∈ gT := gT_in (List.mem_append_right _ (List.mem_append_right _ (List.mem_append_right _ (List.mem_append_right _ (List.mem_append_left _ (List.mem_of_getElem? (i := 101) rfl)))))) rfl
theorem tw_823 : (Jvm.Cond.instanceMethod ({ cls := "BoyBishop$Standing", name := "layBy", desc := "(LBoyBishop$Choir;)V" } : Jvm.MethodName)) ∈ gT := gT_in (List.mem_append_right _ (List.mem_append_right _ (List.mem_append_right _ (List.mem_append_right _ (List.mem_append_left _ (List.mem_of_getElem? (i := 103) rfl)))))) rfl
theorem tw_824 : (Jvm.Cond.code ({ cls := "BoyBishop$Standing", name := "layBy", desc := "(LBoyBishop$Choir;)V" } : Jvm.MethodName) prog_10_method_6_code (3 : Nat) (Option.none : Option Jvm.ClassFile.FieldType)) ∈ gT := gT_in (List.mem_append_right _ (List.mem_append_right _ (List.mem_append_right _ (List.mem_append_right _ (List.mem_append_left _ (List.mem_of_getElem? (i := 104) rfl)))))) rfl
theorem tw_825 : (Jvm.Cond.methodLink "BoyBishop$Standing" (96 : Nat) ({ cls := "java/lang/Math", name := "min", desc := "(II)I" } : Jvm.MethodName)) ∈ gT := gT_in (List.mem_append_right _ (List.mem_append_right _ (List.mem_append_right _ (List.mem_append_right _ (List.mem_append_left _ (List.mem_of_getElem? (i := 105) rfl)))))) rfl
theorem tw_826 : (Jvm.Cond.methodLink "BoyBishop$Standing" (81 : Nat) ({ cls := "BoyBishop$Standing", name := "fadeVoices", desc := "(LBoyBishop$Choir;)V" } : Jvm.MethodName)) ∈ gT := gT_in (List.mem_append_right _ (List.mem_append_right _ (List.mem_append_right _ (List.mem_append_right _ (List.mem_append_left _ (List.mem_of_getElem? (i := 106) rfl)))))) rfl
theorem tw_828 : (Jvm.Cond.instanceMethod ({ cls := "BoyBishop$Standing", name := "fadeVoices", desc := "(LBoyBishop$Choir;)V" } : Jvm.MethodName)) ∈ gT := gT_in (List.mem_append_right _ (List.mem_append_right _ (List.mem_append_right _ (List.mem_append_right _ (List.mem_append_left _ (List.mem_of_getElem? (i := 108) rfl)))))) rfl
theorem tw_829 : (Jvm.Cond.code ({ cls := "BoyBishop$Standing", name := "fadeVoices", desc := "(LBoyBishop$Choir;)V" } : Jvm.MethodName) prog_10_method_7_code (3 : Nat) (Option.none : Option Jvm.ClassFile.FieldType)) ∈ gT := gT_in (List.mem_append_right _ (List.mem_append_right _ (List.mem_append_right _ (List.mem_append_right _ (List.mem_append_left _ (List.mem_of_getElem? (i := 109) rfl)))))) rfl
theorem tw_830 : (Jvm.Cond.methodLink "BoyBishop$Standing" (108 : Nat) ({ cls := "java/lang/Math", name := "max", desc := "(II)I" } : Jvm.MethodName)) ∈ gT := gT_in (List.mem_append_right _ (List.mem_append_right _ (List.mem_append_right _ (List.mem_append_right _ (List.mem_append_left _ (List.mem_of_getElem? (i := 110) rfl)))))) rfl
theorem tw_831 : (Jvm.Cond.static ({ cls := "java/lang/Math", name := "max", desc := "(II)I" } : Jvm.MethodName)) ∈ gT := gT_in (List.mem_append_right _ (List.mem_append_right _ (List.mem_append_right _ (List.mem_append_right _ (List.mem_append_left _ (List.mem_of_getElem? (i := 111) rfl)))))) rfl
theorem tw_832 : (Jvm.Cond.code ({ cls := "java/lang/Math", name := "max", desc := "(II)I" } : Jvm.MethodName) prog_16_method_65_code (2 : Nat) (Option.some Jvm.ClassFile.FieldType.int)) ∈ gT := gT_in (List.mem_append_right _ (List.mem_append_right _ (List.mem_append_right _ (List.mem_append_right _ (List.mem_append_left _ (List.mem_of_getElem? (i := 112) rfl)))))) rfl
theorem tw_833 : (Jvm.Cond.methodLink "BoyBishop$Standing" (84 : Nat) ({ cls := "BoyBishop$Standing", name := "endReign", desc := "(LBoyBishop$Choir;)V" } : Jvm.MethodName)) ∈ gT := gT_in (List.mem_append_right _ (List.mem_append_right _ (List.mem_append_right _ (List.mem_append_right _ (List.mem_append_left _ (List.mem_of_getElem? (i := 113) rfl)))))) rfl
theorem tw_835 : (Jvm.Cond.instanceMethod ({ cls := "BoyBishop$Standing", name := "endReign", desc := "(LBoyBishop$Choir;)V" } : Jvm.MethodName)) ∈ gT := gT_in (List.mem_append_right _ (List.mem_append_right _ (List.mem_append_right _ (List.mem_append_right _ (List.mem_append_left _ (List.mem_of_getElem? (i := 115) rfl)))))) rfl
theorem tw_836 : (Jvm.Cond.code ({ cls := "BoyBishop$Standing", name := "endReign", desc := "(LBoyBishop$Choir;)V" } : Jvm.MethodName) prog_10_method_8_code (2 : Nat) (Option.none : Option Jvm.ClassFile.FieldType)) ∈ gT := gT_in (List.mem_append_right _ (List.mem_append_right _ (List.mem_append_right _ (List.mem_append_right _ (List.mem_append_left _ (List.mem_of_getElem? (i := 116) rfl)))))) rfl
theorem tw_837 : (Jvm.Cond.methodLink "BoyBishop$Standing" (87 : Nat) ({ cls := "BoyBishop$Standing", name := "growOlder", desc := "(LBoyBishop$Choir;)V" } : Jvm.MethodName)) ∈ gT := gT_in (List.mem_append_right _ (List.mem_append_right _ (List.mem_append_right _ (List.mem_append_right _ (List.mem_append_left _ (List.mem_of_getElem? (i := 117) rfl)))))) rfl
theorem tw_839 : (Jvm.Cond.instanceMethod ({ cls := "BoyBishop$Standing", name := "growOlder", desc := "(LBoyBishop$Choir;)V" } : Jvm.MethodName)) ∈ gT := gT_in (List.mem_append_right _ (List.mem_append_right _ (List.mem_append_right _ (List.mem_append_right _ (List.mem_append_left _ (List.mem_of_getElem? (i := 119) rfl)))))) rfl
theorem tw_84 : (Jvm.Cond.fieldLink "BoyBishop$Standing" (114 : Nat) "BoyBishop$Choir" "canons" "I") ∈ gT := gT_in (List.mem_append_right _ (List.mem_append_left _ (List.mem_of_getElem? (i := 84) rfl))) rfl
theorem tw_840 : (Jvm.Cond.code ({ cls := "BoyBishop$Standing", name := "growOlder", desc := "(LBoyBishop$Choir;)V" } : Jvm.MethodName) prog_10_method_9_code (3 : Nat) (Option.none : Option Jvm.ClassFile.FieldType)) ∈ gT := gT_in (List.mem_append_right _ (List.mem_append_right _ (List.mem_append_right _ (List.mem_append_right _ (List.mem_append_left _ (List.mem_of_getElem? (i := 120) rfl)))))) rfl
theorem tw_88 : (Jvm.Cond.fieldLink "BoyBishop$Standing" (90 : Nat) "BoyBishop$Choir" "farms" "I") ∈ gT := gT_in (List.mem_append_right _ (List.mem_append_left _ (List.mem_of_getElem? (i := 88) rfl))) rfl
theorem tw_894 : (Jvm.Cond.methodLink "BoyBishop" (241 : Nat) ({ cls := "BoyBishop", name := "canBeAskedAhead", desc := "(II)Z" } : Jvm.MethodName)) ∈ gT := gT_in (List.mem_append_right _ (List.mem_append_right _ (List.mem_append_right _ (List.mem_append_right _ (List.mem_append_left _ (List.mem_of_getElem? (i := 174) rfl)))))) rfl
theorem tw_896 : (Jvm.Cond.instanceMethod ({ cls := "BoyBishop", name := "canBeAskedAhead", desc := "(II)Z" } : Jvm.MethodName)) ∈ gT := gT_in (List.mem_append_right _ (List.mem_append_right _ (List.mem_append_right _ (List.mem_append_right _ (List.mem_append_left _ (List.mem_of_getElem? (i := 176) rfl)))))) rfl
theorem tw_897 : (Jvm.Cond.code ({ cls := "BoyBishop", name := "canBeAskedAhead", desc := "(II)Z" } : Jvm.MethodName) prog_1_method_20_code (3 : Nat) (Option.some Jvm.ClassFile.FieldType.boolean)) ∈ gT := gT_in (List.mem_append_right _ (List.mem_append_right _ (List.mem_append_right _ (List.mem_append_right _ (List.mem_append_left _ (List.mem_of_getElem? (i := 177) rfl)))))) rfl
theorem tw_898 : (Jvm.Cond.methodLink "BoyBishop" (245 : Nat) ({ cls := "BoyBishop$Standing", name := "copyFrom", desc := "(LBoyBishop$Standing;)V" } : Jvm.MethodName)) ∈ gT := gT_in (List.mem_append_right _ (List.mem_append_right _ (List.mem_append_right _ (List.mem_append_right _ (List.mem_append_left _ (List.mem_of_getElem? (i := 178) rfl)))))) rfl
theorem tw_9 : (Jvm.Cond.initialized "BoyBishop$Past") ∈ gT := gT_in (List.mem_append_right _ (List.mem_append_left _ (List.mem_of_getElem? (i := 9) rfl))) rfl
theorem tw_99 : (Jvm.Cond.fieldLink "BoyBishop$Standing" (105 : Nat) "BoyBishop$Choir" "fade" "[I") ∈ gT := gT_in (List.mem_append_right _ (List.mem_append_left _ (List.mem_of_getElem? (i := 99) rfl))) rfl
theorem dX11_ahead_0 : decode cX11_ahead 0 = .ok (.aload_n 0, 1) := by decide +kernel
theorem dX11_ahead_1 : decode cX11_ahead 1 = .ok (.getfield 45, 3) := by decide +kernel
theorem dX11_ahead_4 : decode cX11_ahead 4 = .ok (.getfield 53, 3) := by decide +kernel
theorem dX11_ahead_7 : decode cX11_ahead 7 = .ok (.getfield 194, 3) := by decide +kernel
theorem dX11_ahead_10 : decode cX11_ahead 10 = .ok (.ifCond .eq 22, 3) := by decide +kernel
theorem dX11_ahead_13 : decode cX11_ahead 13 = .ok (.iload_n 2, 1) := by decide +kernel
theorem dX11_ahead_14 : decode cX11_ahead 14 = .ok (.ifCond .lt 18, 3) := by decide +kernel
theorem dX11_ahead_17 : decode cX11_ahead 17 = .ok (.iload_n 2, 1) := by decide +kernel
theorem dX11_ahead_18 : decode cX11_ahead 18 = .ok (.bipush 60, 2) := by decide +kernel
theorem dX11_ahead_20 : decode cX11_ahead 20 = .ok (.if_icmp .gt 12, 3) := by decide +kernel
theorem dX11_ahead_23 : decode cX11_ahead 23 = .ok (.aload_n 0, 1) := by decide +kernel
theorem dX11_ahead_24 : decode cX11_ahead 24 = .ok (.iload_n 1, 1) := by decide +kernel
theorem dX11_ahead_25 : decode cX11_ahead 25 = .ok (.iload_n 3, 1) := by decide +kernel
theorem dX11_ahead_26 : decode cX11_ahead 26 = .ok (.invokevirtual 241, 3) := by decide +kernel
theorem dX11_ahead_29 : decode cX11_ahead 29 = .ok (.ifCond .ne 6, 3) := by decide +kernel
theorem dX11_ahead_32 : decode cX11_ahead 32 = .ok (.bipush (-2), 2) := by decide +kernel
theorem dX11_ahead_34 : decode cX11_ahead 34 = .ok (.ireturn, 1) := by decide +kernel
theorem dX11_ahead_35 : decode cX11_ahead 35 = .ok (.aload_n 0, 1) := by decide +kernel
theorem dX11_ahead_36 : decode cX11_ahead 36 = .ok (.getfield 92, 3) := by decide +kernel
theorem dX11_ahead_39 : decode cX11_ahead 39 = .ok (.aload_n 0, 1) := by decide +kernel
theorem dX11_ahead_40 : decode cX11_ahead 40 = .ok (.getfield 45, 3) := by decide +kernel
theorem dX11_ahead_43 : decode cX11_ahead 43 = .ok (.getfield 115, 3) := by decide +kernel
theorem dX11_ahead_46 : decode cX11_ahead 46 = .ok (.invokevirtual 245, 3) := by decide +kernel
theorem dX11_ahead_49 : decode cX11_ahead 49 = .ok (.iconst 0, 1) := by decide +kernel
theorem dX11_ahead_50 : decode cX11_ahead 50 = .ok (.istore 4, 2) := by decide +kernel
theorem dX11_ahead_52 : decode cX11_ahead 52 = .ok (.iload 4, 2) := by decide +kernel
theorem dX11_ahead_54 : decode cX11_ahead 54 = .ok (.iload_n 2, 1) := by decide +kernel
theorem dX11_ahead_55 : decode cX11_ahead 55 = .ok (.if_icmp .ge 32, 3) := by decide +kernel
theorem dX11_ahead_58 : decode cX11_ahead 58 = .ok (.aload_n 0, 1) := by decide +kernel
theorem dX11_ahead_59 : decode cX11_ahead 59 = .ok (.getfield 76, 3) := by decide +kernel
theorem dX11_ahead_62 : decode cX11_ahead 62 = .ok (.aload_n 0, 1) := by decide +kernel
theorem dX11_ahead_63 : decode cX11_ahead 63 = .ok (.getfield 45, 3) := by decide +kernel
theorem dX11_ahead_66 : decode cX11_ahead 66 = .ok (.getfield 53, 3) := by decide +kernel
theorem dX11_ahead_69 : decode cX11_ahead 69 = .ok (.aload_n 0, 1) := by decide +kernel
theorem dX11_ahead_70 : decode cX11_ahead 70 = .ok (.getfield 92, 3) := by decide +kernel
theorem dX11_ahead_73 : decode cX11_ahead 73 = .ok (.aload_n 0, 1) := by decide +kernel
theorem dX11_ahead_74 : decode cX11_ahead 74 = .ok (.invokevirtual 205, 3) := by decide +kernel
theorem dX11_ahead_77 : decode cX11_ahead 77 = .ok (.invokevirtual 209, 3) := by decide +kernel
theorem dX11_ahead_80 : decode cX11_ahead 80 = .ok (.pop, 1) := by decide +kernel
theorem dX11_ahead_81 : decode cX11_ahead 81 = .ok (.iinc 4 1, 3) := by decide +kernel
theorem dX11_ahead_84 : decode cX11_ahead 84 = .ok (.goto (-32), 3) := by decide +kernel
theorem dX11_ahead_87 : decode cX11_ahead 87 = .ok (.iload_n 3, 1) := by decide +kernel
theorem dX11_ahead_88 : decode cX11_ahead 88 = .ok (.lookupswitch 46 #[(0, 28), (1, 36)], 28) := by decide +kernel
theorem dX11_ahead_116 : decode cX11_ahead 116 = .ok (.aload_n 0, 1) := by decide +kernel
theorem dX11_ahead_117 : decode cX11_ahead 117 = .ok (.getfield 92, 3) := by decide +kernel
theorem dX11_ahead_120 : decode cX11_ahead 120 = .ok (.getfield 213, 3) := by decide +kernel
theorem dX11_ahead_123 : decode cX11_ahead 123 = .ok (.ireturn, 1) := by decide +kernel
theorem dX11_ahead_124 : decode cX11_ahead 124 = .ok (.aload_n 0, 1) := by decide +kernel
theorem dX11_ahead_125 : decode cX11_ahead 125 = .ok (.getfield 92, 3) := by decide +kernel
theorem dX11_ahead_128 : decode cX11_ahead 128 = .ok (.getfield 142, 3) := by decide +kernel
theorem dX11_ahead_131 : decode cX11_ahead 131 = .ok (.iload_n 1, 1) := by decide +kernel
theorem dX11_ahead_132 : decode cX11_ahead 132 = .ok (.iaload, 1) := by decide +kernel
theorem dX11_ahead_133 : decode cX11_ahead 133 = .ok (.ireturn, 1) := by decide +kernel
theorem dX11_ahead_134 : decode cX11_ahead 134 = .ok (.aload_n 0, 1) := by decide +kernel
theorem dX11_ahead_135 : decode cX11_ahead 135 = .ok (.getfield 92, 3) := by decide +kernel
theorem dX11_ahead_138 : decode cX11_ahead 138 = .ok (.getfield 182, 3) := by decide +kernel
theorem dX11_ahead_141 : decode cX11_ahead 141 = .ok (.iload_n 1, 1) := by decide +kernel
theorem dX11_ahead_142 : decode cX11_ahead 142 = .ok (.iaload, 1) := by decide +kernel
theorem dX11_ahead_143 : decode cX11_ahead 143 = .ok (.ireturn, 1) := by decide +kernel
theorem dX11_back_0 : decode cX11_back 0 = .ok (.iload_n 1, 1) := by decide +kernel
theorem dX11_back_1 : decode cX11_back 1 = .ok (.ifCond .lt 20, 3) := by decide +kernel
theorem dX11_back_4 : decode cX11_back 4 = .ok (.iload_n 1, 1) := by decide +kernel
theorem dX11_back_5 : decode cX11_back 5 = .ok (.iconst 4, 1) := by decide +kernel
theorem dX11_back_6 : decode cX11_back 6 = .ok (.if_icmp .ge 15, 3) := by decide +kernel
theorem dX11_back_9 : decode cX11_back 9 = .ok (.aload_n 0, 1) := by decide +kernel
theorem dX11_back_10 : decode cX11_back 10 = .ok (.getfield 49, 3) := by decide +kernel
theorem dX11_back_13 : decode cX11_back 13 = .ok (.iload_n 1, 1) := by decide +kernel
theorem dX11_back_14 : decode cX11_back 14 = .ok (.aaload, 1) := by decide +kernel
theorem dX11_back_15 : decode cX11_back 15 = .ok (.getfield 376, 3) := by decide +kernel
theorem dX11_back_18 : decode cX11_back 18 = .ok (.ifCond .ne 5, 3) := by decide +kernel
theorem dX11_back_21 : decode cX11_back 21 = .ok (.iconst (-1), 1) := by decide +kernel
theorem dX11_back_22 : decode cX11_back 22 = .ok (.ireturn, 1) := by decide +kernel
theorem dX11_back_23 : decode cX11_back 23 = .ok (.aload_n 0, 1) := by decide +kernel
theorem dX11_back_24 : decode cX11_back 24 = .ok (.getfield 45, 3) := by decide +kernel
theorem dX11_back_27 : decode cX11_back 27 = .ok (.aload_n 0, 1) := by decide +kernel
theorem dX11_back_28 : decode cX11_back 28 = .ok (.getfield 49, 3) := by decide +kernel
theorem dX11_back_31 : decode cX11_back 31 = .ok (.iload_n 1, 1) := by decide +kernel
theorem dX11_back_32 : decode cX11_back 32 = .ok (.aaload, 1) := by decide +kernel
theorem dX11_back_33 : decode cX11_back 33 = .ok (.invokevirtual 373, 3) := by decide +kernel
theorem dX11_back_36 : decode cX11_back 36 = .ok (.aload_n 0, 1) := by decide +kernel
theorem dX11_back_37 : decode cX11_back 37 = .ok (.getfield 60, 3) := by decide +kernel
theorem dX11_back_40 : decode cX11_back 40 = .ok (.invokevirtual 124, 3) := by decide +kernel
theorem dX11_back_43 : decode cX11_back 43 = .ok (.aload_n 0, 1) := by decide +kernel
theorem dX11_back_44 : decode cX11_back 44 = .ok (.getfield 45, 3) := by decide +kernel
theorem dX11_back_47 : decode cX11_back 47 = .ok (.getfield 115, 3) := by decide +kernel
theorem dX11_back_50 : decode cX11_back 50 = .ok (.getfield 198, 3) := by decide +kernel
theorem dX11_back_53 : decode cX11_back 53 = .ok (.ireturn, 1) := by decide +kernel
theorem dX3_pass_0 : decode cX3_pass 0 = .ok (.iconst 0, 1) := by decide +kernel
theorem dX3_pass_1 : decode cX3_pass 1 = .ok (.istore 4, 2) := by decide +kernel
theorem dX3_pass_3 : decode cX3_pass 3 = .ok (.aload_n 2, 1) := by decide +kernel
theorem dX3_pass_4 : decode cX3_pass 4 = .ok (.getfield 15, 3) := by decide +kernel
theorem dX3_pass_7 : decode cX3_pass 7 = .ok (.iconst (-1), 1) := by decide +kernel
theorem dX3_pass_8 : decode cX3_pass 8 = .ok (.if_icmp .ne 47, 3) := by decide +kernel
theorem dX3_pass_11 : decode cX3_pass 11 = .ok (.aload_n 0, 1) := by decide +kernel
theorem dX3_pass_12 : decode cX3_pass 12 = .ok (.getfield 9, 3) := by decide +kernel
theorem dX3_pass_15 : decode cX3_pass 15 = .ok (.aload_n 1, 1) := by decide +kernel
theorem dX3_pass_16 : decode cX3_pass 16 = .ok (.aload_n 2, 1) := by decide +kernel
theorem dX3_pass_17 : decode cX3_pass 17 = .ok (.aload_n 3, 1) := by decide +kernel
theorem dX3_pass_18 : decode cX3_pass 18 = .ok (.invokevirtual 21, 3) := by decide +kernel
theorem dX3_pass_21 : decode cX3_pass 21 = .ok (.aload_n 0, 1) := by decide +kernel
theorem dX3_pass_22 : decode cX3_pass 22 = .ok (.getfield 9, 3) := by decide +kernel
theorem dX3_pass_25 : decode cX3_pass 25 = .ok (.getfield 27, 3) := by decide +kernel
theorem dX3_pass_28 : decode cX3_pass 28 = .ok (.iconst (-1), 1) := by decide +kernel
theorem dX3_pass_29 : decode cX3_pass 29 = .ok (.if_icmp .eq 7, 3) := by decide +kernel
theorem dX3_pass_32 : decode cX3_pass 32 = .ok (.iconst 1, 1) := by decide +kernel
theorem dX3_pass_33 : decode cX3_pass 33 = .ok (.goto 4, 3) := by decide +kernel
theorem dX3_pass_36 : decode cX3_pass 36 = .ok (.iconst 0, 1) := by decide +kernel
theorem dX3_pass_37 : decode cX3_pass 37 = .ok (.istore 4, 2) := by decide +kernel
theorem dX3_pass_39 : decode cX3_pass 39 = .ok (.iload 4, 2) := by decide +kernel
theorem dX3_pass_41 : decode cX3_pass 41 = .ok (.ifCond .eq 14, 3) := by decide +kernel
theorem dX3_pass_44 : decode cX3_pass 44 = .ok (.aload_n 2, 1) := by decide +kernel
theorem dX3_pass_45 : decode cX3_pass 45 = .ok (.aload_n 0, 1) := by decide +kernel
theorem dX3_pass_46 : decode cX3_pass 46 = .ok (.getfield 9, 3) := by decide +kernel
theorem dX3_pass_49 : decode cX3_pass 49 = .ok (.getfield 27, 3) := by decide +kernel
theorem dX3_pass_52 : decode cX3_pass 52 = .ok (.invokevirtual 30, 3) := by decide +kernel
theorem dX3_pass_55 : decode cX3_pass 55 = .ok (.aload_n 2, 1) := by decide +kernel
theorem dX3_pass_56 : decode cX3_pass 56 = .ok (.aload_n 1, 1) := by decide +kernel
theorem dX3_pass_57 : decode cX3_pass 57 = .ok (.invokevirtual 34, 3) := by decide +kernel
theorem dX3_pass_60 : decode cX3_pass 60 = .ok (.iload 4, 2) := by decide +kernel
theorem dX3_pass_62 : decode cX3_pass 62 = .ok (.ireturn, 1) := by decide +kernel
theorem dX4_forget_0 : decode cX4_forget 0 = .ok (.aload_n 0, 1) := by decide +kernel
theorem dX4_forget_1 : decode cX4_forget 1 = .ok (.iconst 0, 1) := by decide +kernel
theorem dX4_forget_2 : decode cX4_forget 2 = .ok (.putfield 24, 3) := by decide +kernel
theorem dX4_forget_5 : decode cX4_forget 5 = .ok (.return_, 1) := by decide +kernel
theorem dX8_crown_0 : decode cX8_crown 0 = .ok (.aload_n 0, 1) := by decide +kernel
theorem dX8_crown_1 : decode cX8_crown 1 = .ok (.iload_n 1, 1) := by decide +kernel
theorem dX8_crown_2 : decode cX8_crown 2 = .ok (.putfield 9, 3) := by decide +kernel
theorem dX8_crown_5 : decode cX8_crown 5 = .ok (.aload_n 0, 1) := by decide +kernel
theorem dX8_crown_6 : decode cX8_crown 6 = .ok (.aload_n 0, 1) := by decide +kernel
theorem dX8_crown_7 : decode cX8_crown 7 = .ok (.getfield 37, 3) := by decide +kernel
theorem dX8_crown_10 : decode cX8_crown 10 = .ok (.putfield 15, 3) := by decide +kernel
theorem dX8_crown_13 : decode cX8_crown 13 = .ok (.aload_n 0, 1) := by decide +kernel
theorem dX8_crown_14 : decode cX8_crown 14 = .ok (.getfield 25, 3) := by decide +kernel
theorem dX8_crown_17 : decode cX8_crown 17 = .ok (.iload_n 1, 1) := by decide +kernel
theorem dX8_crown_18 : decode cX8_crown 18 = .ok (.dup2, 1) := by decide +kernel
theorem dX8_crown_19 : decode cX8_crown 19 = .ok (.iaload, 1) := by decide +kernel
theorem dX8_crown_20 : decode cX8_crown 20 = .ok (.iconst 1, 1) := by decide +kernel
theorem dX8_crown_21 : decode cX8_crown 21 = .ok (.iadd, 1) := by decide +kernel
theorem dX8_crown_22 : decode cX8_crown 22 = .ok (.iastore, 1) := by decide +kernel
theorem dX8_crown_23 : decode cX8_crown 23 = .ok (.return_, 1) := by decide +kernel
theorem dX8_endDay_0 : decode cX8_endDay 0 = .ok (.aload_n 1, 1) := by decide +kernel
theorem dX8_endDay_1 : decode cX8_endDay 1 = .ok (.aload_n 0, 1) := by decide +kernel
theorem dX8_endDay_2 : decode cX8_endDay 2 = .ok (.getfield 37, 3) := by decide +kernel
theorem dX8_endDay_5 : decode cX8_endDay 5 = .ok (.invokevirtual 73, 3) := by decide +kernel
theorem dX8_endDay_8 : decode cX8_endDay 8 = .ok (.ifCond .ne 8, 3) := by decide +kernel
theorem dX8_endDay_11 : decode cX8_endDay 11 = .ok (.aload_n 0, 1) := by decide +kernel
theorem dX8_endDay_12 : decode cX8_endDay 12 = .ok (.aload_n 1, 1) := by decide +kernel
theorem dX8_endDay_13 : decode cX8_endDay 13 = .ok (.invokevirtual 77, 3) := by decide +kernel
theorem dX8_endDay_16 : decode cX8_endDay 16 = .ok (.aload_n 0, 1) := by decide +kernel
theorem dX8_endDay_17 : decode cX8_endDay 17 = .ok (.aload_n 1, 1) := by decide +kernel
theorem dX8_endDay_18 : decode cX8_endDay 18 = .ok (.invokevirtual 81, 3) := by decide +kernel
theorem dX8_endDay_21 : decode cX8_endDay 21 = .ok (.aload_n 0, 1) := by decide +kernel
theorem dX8_endDay_22 : decode cX8_endDay 22 = .ok (.aload_n 1, 1) := by decide +kernel
theorem dX8_endDay_23 : decode cX8_endDay 23 = .ok (.invokevirtual 84, 3) := by decide +kernel
theorem dX8_endDay_26 : decode cX8_endDay 26 = .ok (.aload_n 0, 1) := by decide +kernel
theorem dX8_endDay_27 : decode cX8_endDay 27 = .ok (.getfield 37, 3) := by decide +kernel
theorem dX8_endDay_30 : decode cX8_endDay 30 = .ok (.bipush 10, 2) := by decide +kernel
theorem dX8_endDay_32 : decode cX8_endDay 32 = .ok (.irem, 1) := by decide +kernel
theorem dX8_endDay_33 : decode cX8_endDay 33 = .ok (.bipush 9, 2) := by decide +kernel
theorem dX8_endDay_35 : decode cX8_endDay 35 = .ok (.if_icmp .ne 8, 3) := by decide +kernel
theorem dX8_endDay_38 : decode cX8_endDay 38 = .ok (.aload_n 0, 1) := by decide +kernel
theorem dX8_endDay_39 : decode cX8_endDay 39 = .ok (.aload_n 1, 1) := by decide +kernel
theorem dX8_endDay_40 : decode cX8_endDay 40 = .ok (.invokevirtual 87, 3) := by decide +kernel
theorem dX8_endDay_43 : decode cX8_endDay 43 = .ok (.aload_n 0, 1) := by decide +kernel
theorem dX8_endDay_44 : decode cX8_endDay 44 = .ok (.dup, 1) := by decide +kernel
theorem dX8_endDay_45 : decode cX8_endDay 45 = .ok (.getfield 37, 3) := by decide +kernel
theorem dX8_endDay_48 : decode cX8_endDay 48 = .ok (.iconst 1, 1) := by decide +kernel
theorem dX8_endDay_49 : decode cX8_endDay 49 = .ok (.iadd, 1) := by decide +kernel
theorem dX8_endDay_50 : decode cX8_endDay 50 = .ok (.putfield 37, 3) := by decide +kernel
theorem dX8_endDay_53 : decode cX8_endDay 53 = .ok (.aload_n 0, 1) := by decide +kernel
theorem dX8_endDay_54 : decode cX8_endDay 54 = .ok (.iconst 0, 1) := by decide +kernel
theorem dX8_endDay_55 : decode cX8_endDay 55 = .ok (.putfield 40, 3) := by decide +kernel
theorem dX8_endDay_58 : decode cX8_endDay 58 = .ok (.return_, 1) := by decide +kernel
theorem dX8_endReign_0 : decode cX8_endReign 0 = .ok (.aload_n 0, 1) := by decide +kernel
theorem dX8_endReign_1 : decode cX8_endReign 1 = .ok (.getfield 9, 3) := by decide +kernel
theorem dX8_endReign_4 : decode cX8_endReign 4 = .ok (.iconst (-1), 1) := by decide +kernel
theorem dX8_endReign_5 : decode cX8_endReign 5 = .ok (.if_icmp .eq 43, 3) := by decide +kernel
theorem dX8_endReign_8 : decode cX8_endReign 8 = .ok (.aload_n 0, 1) := by decide +kernel
theorem dX8_endReign_9 : decode cX8_endReign 9 = .ok (.getfield 18, 3) := by decide +kernel
theorem dX8_endReign_12 : decode cX8_endReign 12 = .ok (.aload_n 0, 1) := by decide +kernel
theorem dX8_endReign_13 : decode cX8_endReign 13 = .ok (.getfield 9, 3) := by decide +kernel
theorem dX8_endReign_16 : decode cX8_endReign 16 = .ok (.iaload, 1) := by decide +kernel
theorem dX8_endReign_17 : decode cX8_endReign 17 = .ok (.ifCond .eq 21, 3) := by decide +kernel
theorem dX8_endReign_20 : decode cX8_endReign 20 = .ok (.aload_n 0, 1) := by decide +kernel
theorem dX8_endReign_21 : decode cX8_endReign 21 = .ok (.getfield 37, 3) := by decide +kernel
theorem dX8_endReign_24 : decode cX8_endReign 24 = .ok (.iconst 1, 1) := by decide +kernel
theorem dX8_endReign_25 : decode cX8_endReign 25 = .ok (.iadd, 1) := by decide +kernel
theorem dX8_endReign_26 : decode cX8_endReign 26 = .ok (.aload_n 0, 1) := by decide +kernel
theorem dX8_endReign_27 : decode cX8_endReign 27 = .ok (.getfield 15, 3) := by decide +kernel
theorem dX8_endReign_30 : decode cX8_endReign 30 = .ok (.isub, 1) := by decide +kernel
theorem dX8_endReign_31 : decode cX8_endReign 31 = .ok (.aload_n 1, 1) := by decide +kernel
theorem dX8_endReign_32 : decode cX8_endReign 32 = .ok (.getfield 111, 3) := by decide +kernel
theorem dX8_endReign_35 : decode cX8_endReign 35 = .ok (.if_icmp .lt 13, 3) := by decide +kernel
theorem dX8_endReign_38 : decode cX8_endReign 38 = .ok (.aload_n 0, 1) := by decide +kernel
theorem dX8_endReign_39 : decode cX8_endReign 39 = .ok (.iconst (-1), 1) := by decide +kernel
theorem dX8_endReign_40 : decode cX8_endReign 40 = .ok (.putfield 9, 3) := by decide +kernel
theorem dX8_endReign_43 : decode cX8_endReign 43 = .ok (.aload_n 0, 1) := by decide +kernel
theorem dX8_endReign_44 : decode cX8_endReign 44 = .ok (.iconst (-1), 1) := by decide +kernel
theorem dX8_endReign_45 : decode cX8_endReign 45 = .ok (.putfield 15, 3) := by decide +kernel
theorem dX8_endReign_48 : decode cX8_endReign 48 = .ok (.return_, 1) := by decide +kernel
theorem dX8_fadeVoices_0 : decode cX8_fadeVoices 0 = .ok (.iconst 0, 1) := by decide +kernel
theorem dX8_fadeVoices_1 : decode cX8_fadeVoices 1 = .ok (.istore_n 2, 1) := by decide +kernel
theorem dX8_fadeVoices_2 : decode cX8_fadeVoices 2 = .ok (.iload_n 2, 1) := by decide +kernel
theorem dX8_fadeVoices_3 : decode cX8_fadeVoices 3 = .ok (.aload_n 1, 1) := by decide +kernel
theorem dX8_fadeVoices_4 : decode cX8_fadeVoices 4 = .ok (.getfield 102, 3) := by decide +kernel
theorem dX8_fadeVoices_7 : decode cX8_fadeVoices 7 = .ok (.if_icmp .ge 32, 3) := by decide +kernel
theorem dX8_fadeVoices_10 : decode cX8_fadeVoices 10 = .ok (.aload_n 0, 1) := by decide +kernel
theorem dX8_fadeVoices_11 : decode cX8_fadeVoices 11 = .ok (.getfield 18, 3) := by decide +kernel
theorem dX8_fadeVoices_14 : decode cX8_fadeVoices 14 = .ok (.iload_n 2, 1) := by decide +kernel
theorem dX8_fadeVoices_15 : decode cX8_fadeVoices 15 = .ok (.iconst 0, 1) := by decide +kernel
theorem dX8_fadeVoices_16 : decode cX8_fadeVoices 16 = .ok (.aload_n 0, 1) := by decide +kernel
theorem dX8_fadeVoices_17 : decode cX8_fadeVoices 17 = .ok (.getfield 18, 3) := by decide +kernel
theorem dX8_fadeVoices_20 : decode cX8_fadeVoices 20 = .ok (.iload_n 2, 1) := by decide +kernel
theorem dX8_fadeVoices_21 : decode cX8_fadeVoices 21 = .ok (.iaload, 1) := by decide +kernel
theorem dX8_fadeVoices_22 : decode cX8_fadeVoices 22 = .ok (.aload_n 1, 1) := by decide +kernel
theorem dX8_fadeVoices_23 : decode cX8_fadeVoices 23 = .ok (.getfield 105, 3) := by decide +kernel
theorem dX8_fadeVoices_26 : decode cX8_fadeVoices 26 = .ok (.iload_n 2, 1) := by decide +kernel
theorem dX8_fadeVoices_27 : decode cX8_fadeVoices 27 = .ok (.iaload, 1) := by decide +kernel
theorem dX8_fadeVoices_28 : decode cX8_fadeVoices 28 = .ok (.isub, 1) := by decide +kernel
theorem dX8_fadeVoices_29 : decode cX8_fadeVoices 29 = .ok (.invokestatic 108, 3) := by decide +kernel
theorem dX8_fadeVoices_32 : decode cX8_fadeVoices 32 = .ok (.iastore, 1) := by decide +kernel
theorem dX8_fadeVoices_33 : decode cX8_fadeVoices 33 = .ok (.iinc 2 1, 3) := by decide +kernel
theorem dX8_fadeVoices_36 : decode cX8_fadeVoices 36 = .ok (.goto (-34), 3) := by decide +kernel
theorem dX8_fadeVoices_39 : decode cX8_fadeVoices 39 = .ok (.return_, 1) := by decide +kernel
theorem dX8_growOlder_0 : decode cX8_growOlder 0 = .ok (.iconst 0, 1) := by decide +kernel
theorem dX8_growOlder_1 : decode cX8_growOlder 1 = .ok (.istore_n 2, 1) := by decide +kernel
theorem dX8_growOlder_2 : decode cX8_growOlder 2 = .ok (.iload_n 2, 1) := by decide +kernel
theorem dX8_growOlder_3 : decode cX8_growOlder 3 = .ok (.aload_n 1, 1) := by decide +kernel
theorem dX8_growOlder_4 : decode cX8_growOlder 4 = .ok (.getfield 114, 3) := by decide +kernel
theorem dX8_growOlder_7 : decode cX8_growOlder 7 = .ok (.if_icmp .ge 56, 3) := by decide +kernel
theorem dX8_growOlder_10 : decode cX8_growOlder 10 = .ok (.aload_n 0, 1) := by decide +kernel
theorem dX8_growOlder_11 : decode cX8_growOlder 11 = .ok (.getfield 28, 3) := by decide +kernel
theorem dX8_growOlder_14 : decode cX8_growOlder 14 = .ok (.iload_n 2, 1) := by decide +kernel
theorem dX8_growOlder_15 : decode cX8_growOlder 15 = .ok (.iaload, 1) := by decide +kernel
theorem dX8_growOlder_16 : decode cX8_growOlder 16 = .ok (.bipush 100, 2) := by decide +kernel
theorem dX8_growOlder_18 : decode cX8_growOlder 18 = .ok (.if_icmp .lt 6, 3) := by decide +kernel
theorem dX8_growOlder_21 : decode cX8_growOlder 21 = .ok (.goto 36, 3) := by decide +kernel
theorem dX8_growOlder_24 : decode cX8_growOlder 24 = .ok (.aload_n 0, 1) := by decide +kernel
theorem dX8_growOlder_25 : decode cX8_growOlder 25 = .ok (.getfield 28, 3) := by decide +kernel
theorem dX8_growOlder_28 : decode cX8_growOlder 28 = .ok (.iload_n 2, 1) := by decide +kernel
theorem dX8_growOlder_29 : decode cX8_growOlder 29 = .ok (.dup2, 1) := by decide +kernel
theorem dX8_growOlder_30 : decode cX8_growOlder 30 = .ok (.iaload, 1) := by decide +kernel
theorem dX8_growOlder_31 : decode cX8_growOlder 31 = .ok (.iconst 1, 1) := by decide +kernel
theorem dX8_growOlder_32 : decode cX8_growOlder 32 = .ok (.iadd, 1) := by decide +kernel
theorem dX8_growOlder_33 : decode cX8_growOlder 33 = .ok (.iastore, 1) := by decide +kernel
theorem dX8_growOlder_34 : decode cX8_growOlder 34 = .ok (.aload_n 0, 1) := by decide +kernel
theorem dX8_growOlder_35 : decode cX8_growOlder 35 = .ok (.getfield 28, 3) := by decide +kernel
theorem dX8_growOlder_38 : decode cX8_growOlder 38 = .ok (.iload_n 2, 1) := by decide +kernel
theorem dX8_growOlder_39 : decode cX8_growOlder 39 = .ok (.iaload, 1) := by decide +kernel
theorem dX8_growOlder_40 : decode cX8_growOlder 40 = .ok (.bipush 100, 2) := by decide +kernel
theorem dX8_growOlder_42 : decode cX8_growOlder 42 = .ok (.if_icmp .ne 15, 3) := by decide +kernel
theorem dX8_growOlder_45 : decode cX8_growOlder 45 = .ok (.aload_n 0, 1) := by decide +kernel
theorem dX8_growOlder_46 : decode cX8_growOlder 46 = .ok (.dup, 1) := by decide +kernel
theorem dX8_growOlder_47 : decode cX8_growOlder 47 = .ok (.getfield 50, 3) := by decide +kernel
theorem dX8_growOlder_50 : decode cX8_growOlder 50 = .ok (.iconst 1, 1) := by decide +kernel
theorem dX8_growOlder_51 : decode cX8_growOlder 51 = .ok (.iload_n 2, 1) := by decide +kernel
theorem dX8_growOlder_52 : decode cX8_growOlder 52 = .ok (.ishl, 1) := by decide +kernel
theorem dX8_growOlder_53 : decode cX8_growOlder 53 = .ok (.ior, 1) := by decide +kernel
theorem dX8_growOlder_54 : decode cX8_growOlder 54 = .ok (.putfield 50, 3) := by decide +kernel
theorem dX8_growOlder_57 : decode cX8_growOlder 57 = .ok (.iinc 2 1, 3) := by decide +kernel
theorem dX8_growOlder_60 : decode cX8_growOlder 60 = .ok (.goto (-58), 3) := by decide +kernel
theorem dX8_growOlder_63 : decode cX8_growOlder 63 = .ok (.return_, 1) := by decide +kernel
theorem dX8_layBy_0 : decode cX8_layBy 0 = .ok (.iconst 0, 1) := by decide +kernel
theorem dX8_layBy_1 : decode cX8_layBy 1 = .ok (.istore_n 2, 1) := by decide +kernel
theorem dX8_layBy_2 : decode cX8_layBy 2 = .ok (.iload_n 2, 1) := by decide +kernel
theorem dX8_layBy_3 : decode cX8_layBy 3 = .ok (.aload_n 1, 1) := by decide +kernel
theorem dX8_layBy_4 : decode cX8_layBy 4 = .ok (.getfield 90, 3) := by decide +kernel
theorem dX8_layBy_7 : decode cX8_layBy 7 = .ok (.if_icmp .ge 37, 3) := by decide +kernel
theorem dX8_layBy_10 : decode cX8_layBy 10 = .ok (.aload_n 0, 1) := by decide +kernel
theorem dX8_layBy_11 : decode cX8_layBy 11 = .ok (.getfield 34, 3) := by decide +kernel
theorem dX8_layBy_14 : decode cX8_layBy 14 = .ok (.iload_n 2, 1) := by decide +kernel
theorem dX8_layBy_15 : decode cX8_layBy 15 = .ok (.aload_n 1, 1) := by decide +kernel
theorem dX8_layBy_16 : decode cX8_layBy 16 = .ok (.getfield 70, 3) := by decide +kernel
theorem dX8_layBy_19 : decode cX8_layBy 19 = .ok (.iload_n 2, 1) := by decide +kernel
theorem dX8_layBy_20 : decode cX8_layBy 20 = .ok (.iaload, 1) := by decide +kernel
theorem dX8_layBy_21 : decode cX8_layBy 21 = .ok (.aload_n 0, 1) := by decide +kernel
theorem dX8_layBy_22 : decode cX8_layBy 22 = .ok (.getfield 34, 3) := by decide +kernel
theorem dX8_layBy_25 : decode cX8_layBy 25 = .ok (.iload_n 2, 1) := by decide +kernel
theorem dX8_layBy_26 : decode cX8_layBy 26 = .ok (.iaload, 1) := by decide +kernel
theorem dX8_layBy_27 : decode cX8_layBy 27 = .ok (.aload_n 1, 1) := by decide +kernel
theorem dX8_layBy_28 : decode cX8_layBy 28 = .ok (.getfield 93, 3) := by decide +kernel
theorem dX8_layBy_31 : decode cX8_layBy 31 = .ok (.iload_n 2, 1) := by decide +kernel
theorem dX8_layBy_32 : decode cX8_layBy 32 = .ok (.iaload, 1) := by decide +kernel
theorem dX8_layBy_33 : decode cX8_layBy 33 = .ok (.iadd, 1) := by decide +kernel
theorem dX8_layBy_34 : decode cX8_layBy 34 = .ok (.invokestatic 96, 3) := by decide +kernel
theorem dX8_layBy_37 : decode cX8_layBy 37 = .ok (.iastore, 1) := by decide +kernel
theorem dX8_layBy_38 : decode cX8_layBy 38 = .ok (.iinc 2 1, 3) := by decide +kernel
theorem dX8_layBy_41 : decode cX8_layBy 41 = .ok (.goto (-39), 3) := by decide +kernel
theorem dX8_layBy_44 : decode cX8_layBy 44 = .ok (.return_, 1) := by decide +kernel
theorem iX3 : ∀ w ∈ u_ws RX3 TX3 4, w ∈ gT := i_of (by decide +kernel)
theorem iX4 : ∀ w ∈ u_ws RX4 TX4 3, w ∈ gT := i_of (by decide +kernel)
theorem li_10 : (10 : Int32).toInt = 10 := by decide
theorem li_100 : (100 : Int32).toInt = 100 := by decide
theorem li_60 : (60 : Int32).toInt = 60 := by decide
theorem li_9 : (9 : Int32).toInt = 9 := by decide
set_option maxHeartbeats 4000000 in
set_option maxRecDepth 100000 in
theorem t_X8_crown (l : Launch) (dC : Nat → ClassId) (dI : Nat → Nat → Nat) (tys : List (ClassId × FieldType)) (κ : tK) (B : Nat) (ws : va_W) (hT : Ty κ tys B ws) (a0 : Nat) (k_a0 : κ a0 = some 8) (a1 : Int32) (l_a1 : 0 ≤ a1.toInt) (h_a1 : a1.toInt ≤ 5) (sz : Nat) : Met l yX8_crown (ws_u yX8_crown cX8_crown 2 none) ({ frames := 0, cells := 0, slots := 0, locals := 0 }) (va_Pc [.ref a0, .int a1] (cPre (dC, dI) tys ws sz)) (va_Qv (fun (w : va_W) => Ty κ tys B w ∧ Sm [(8, 1), (8, 2)] [45] κ ws w) (fun w t => cPost (dC, dI) tys w (va_A ws sz) t) (va_A ws sz)) 0 0 (va_A ws sz) := by
  refine Met.ofW (cc := cX8_crown) (maxL := 2) (ret := none) (by decide) rfl ?_
  intro p e s m args below meth c s₁ B0 hml hv
  obtain ⟨rfl, hsz, hP, hK, hD0, hE⟩ := hv
  have hx := B0.exec
  have hb := B0.bytes
  have hr := B0.returns
  have hts0 := atoms_spec (ws := ws_u yX8_crown cX8_crown 2 none) B0.pre
  have hts : ∀ w ∈ gT, w.before _ s = true := fun w h => hts0 w (List.mem_cons_of_mem _ h)
  have hown : s.vm.findClass RX8 = some m.cls := findClass_of_methodNamed B0.named
  have hlocks := B0.notSynchronized
  subst hsz
  have hD := hD0.self (sz := s.heap.size)
  generalize hAe : va_A ws s.heap.size = A at hD ⊢
  have hA : ∀ q : Nat, s.heap.size ≤ q → A q := fun q h => by rw [← hAe]; exact Or.inr h
  have hw : tW (dC, dI) tys κ B A s ws s.heap [] := ⟨hK, hP, hD, va_S.rf, hT⟩
  have hM : Sm [(8, 1), (8, 2)] [45] κ ws ws := Sm.rf
  clear hP hK hD hD0 hts0
  have hl := lv_entry ([.ref a0, .int a1]) (n := 2) (Nat.le_of_ble_eq_true rfl)
  rw [lg_entry_eq]
  generalize (lg_sl ([.ref a0, .int a1]) ++ List.replicate (2 - (lg_sl ([.ref a0, .int a1])).length) Slot.unset).toArray = ls at hl ⊢
  have hl : lv_has ls 2 [(0, .ref a0), (1, .int a1)] := hl
  refine t_start (fun QQ hQ => ?_)
  refine lv_aload_n hx hb dX8_crown_0 rfl (lv_at hl 0 rfl) ?_
  refine lv_iload_n hx hb dX8_crown_1 rfl (lv_at hl 1 rfl) ?_
  refine t_put (ci := 8) (C := RX8) (T := TX8) (N := 13) (v := .int a1) hx hb hts iX8 tyX8 tyX8_ok nmX8 hown hw k_a0 rfl rfl rfl 1 (by decide) (hts _ tw_223) (fun _ h9 => h9) rfl (tyX8_ok 1 (by decide)) rfl rfl (okV.int rfl (by omega) (by omega)) dX8_crown_2 (fun w_1 H locs hw u => ?_)
  have hM := hM.up1 u (by decide)
  have f_a0_X8_1 := u.2.2
  refine lv_aload_n hx hb dX8_crown_5 rfl (lv_at hl 0 rfl) ?_
  refine lv_aload_n hx hb dX8_crown_6 rfl (lv_at hl 0 rfl) ?_
  refine t_geti (ci := 8) (C := RX8) (T := TX8) (N := 13) hx hb hts iX8 hown hw k_a0 rfl rfl rfl 0 (by decide) (hts _ tw_220) (fun _ h9 => h9) dX8_crown_7 rfl (fun v7 l_v7 h_v7 f_a0_X8_0 => ?_)
  have l_v7 : (-2147483648) ≤ v7.toInt := l_v7
  have h_v7 : v7.toInt ≤ 2147483647 := h_v7
  refine t_put (ci := 8) (C := RX8) (T := TX8) (N := 13) (v := .int v7) hx hb hts iX8 tyX8 tyX8_ok nmX8 hown hw k_a0 rfl rfl rfl 2 (by decide) (hts _ tw_227) (fun _ h9 => h9) rfl (tyX8_ok 2 (by decide)) rfl rfl (okV.int rfl (by omega) (by omega)) dX8_crown_10 (fun w_2 H locs hw u => ?_)
  have hM := hM.up1 u (by decide)
  have f_a0_X8_1 := u.1 _ _ _ _ f_a0_X8_1 (Or.inr (Or.inr (by decide)))
  have f_a0_X8_0 := u.1 _ _ _ _ f_a0_X8_0 (Or.inr (Or.inr (by decide)))
  have f_a0_X8_2 := u.2.2
  refine lv_aload_n hx hb dX8_crown_13 rfl (lv_at hl 0 rfl) ?_
  refine t_getr (k1 := 45) (ci := 8) (C := RX8) (T := TX8) (N := 13) hx hb hts iX8 hown hw k_a0 rfl rfl rfl 9 (by decide) (hts _ tw_245) (fun _ h9 => h9) dX8_crown_14 rfl (fun v14 k_v14 f_a0_X8_9 => ?_)
  refine lv_iload_n hx hb dX8_crown_17 rfl (lv_at hl 1 rfl) ?_
  refine lv_dup2_11 hx hb dX8_crown_18 rfl rfl ?_
  refine t_iald hx hb hw k_v14 rfl rfl (by omega) (show a1.toInt < 6 by omega) dX8_crown_19 (fun v19 r_v19 s_v19 q_v19 => ?_)
  have l_v19 := i32_lo v19
  have h_v19 := i32_hi v19
  refine lv_iconst (v := 1) hx hb dX8_crown_20 (by decide) ?_
  refine lv_iadd hx hb dX8_crown_21 ?_
  refine lv_topi (fun v21 e_v21 => ?_)
  have l_v21 := i32_lo v21
  have h_v21 := i32_hi v21
  refine t_iast hx hb hw k_v14 rfl rfl (by omega) (show a1.toInt < 6 by omega) (i32_lo _) (i32_hi _) dX8_crown_22 (fun w_3 H locs hw u => ?_)
  have hM := hM.up3 u k_v14 (by decide)
  have f_a0_X8_1 := u.1 _ _ _ _ f_a0_X8_1
  have f_a0_X8_0 := u.1 _ _ _ _ f_a0_X8_0
  have f_a0_X8_2 := u.1 _ _ _ _ f_a0_X8_2
  have f_a0_X8_9 := u.1 _ _ _ _ f_a0_X8_9
  rw [hQ]
  refine W.widen (k := 0) (n := 0) (Nat.le_refl _) (Nat.le_refl _) ?_
  exact W.vret hx hb hr (fun t ht hW => ⟨⟨w_3, rfl, ⟨hw.2.2.2.2, hM⟩, by rw [ht]; exact hw.2.1, va_K.moved hW.alike hw.1, hw.2.2.1⟩, hw.2.2.2.1.F ht⟩) hw.2.2.2.1.2.2 dX8_crown_23
set_option maxHeartbeats 4000000 in
set_option maxRecDepth 100000 in
theorem t_X8_endReign (l : Launch) (dC : Nat → ClassId) (dI : Nat → Nat → Nat) (tys : List (ClassId × FieldType)) (κ : tK) (B : Nat) (ws : va_W) (hT : Ty κ tys B ws) (a0 : Nat) (k_a0 : κ a0 = some 8) (a1 : Nat) (k_a1 : κ a1 = some 0) (sz : Nat) : Met l yX8_endReign (ws_u yX8_endReign cX8_endReign 2 none) ({ frames := 0, cells := 0, slots := 0, locals := 0 }) (va_Pc [.ref a0, .ref a1] (cPre (dC, dI) tys ws sz)) (va_Qv (fun (w : va_W) => Ty κ tys B w ∧ Sm [(8, 1), (8, 2)] [] κ ws w) (fun w t => cPost (dC, dI) tys w (va_A ws sz) t) (va_A ws sz)) 0 0 (va_A ws sz) := by
  refine Met.ofW (cc := cX8_endReign) (maxL := 2) (ret := none) (by decide) rfl ?_
  intro p e s m args below meth c s₁ B0 hml hv
  obtain ⟨rfl, hsz, hP, hK, hD0, hE⟩ := hv
  have hx := B0.exec
  have hb := B0.bytes
  have hr := B0.returns
  have hts0 := atoms_spec (ws := ws_u yX8_endReign cX8_endReign 2 none) B0.pre
  have hts : ∀ w ∈ gT, w.before _ s = true := fun w h => hts0 w (List.mem_cons_of_mem _ h)
  have hown : s.vm.findClass RX8 = some m.cls := findClass_of_methodNamed B0.named
  have hlocks := B0.notSynchronized
  subst hsz
  have hD := hD0.self (sz := s.heap.size)
  generalize hAe : va_A ws s.heap.size = A at hD ⊢
  have hA : ∀ q : Nat, s.heap.size ≤ q → A q := fun q h => by rw [← hAe]; exact Or.inr h
  have hw : tW (dC, dI) tys κ B A s ws s.heap [] := ⟨hK, hP, hD, va_S.rf, hT⟩
  have hM : Sm [(8, 1), (8, 2)] [] κ ws ws := Sm.rf
  clear hP hK hD hD0 hts0
  have hl := lv_entry ([.ref a0, .ref a1]) (n := 2) (Nat.le_of_ble_eq_true rfl)
  rw [lg_entry_eq]
  generalize (lg_sl ([.ref a0, .ref a1]) ++ List.replicate (2 - (lg_sl ([.ref a0, .ref a1])).length) Slot.unset).toArray = ls at hl ⊢
  have hl : lv_has ls 2 [(0, .ref a0), (1, .ref a1)] := hl
  refine t_start (fun QQ hQ => ?_)
  refine lv_aload_n hx hb dX8_endReign_0 rfl (lv_at hl 0 rfl) ?_
  refine t_geti (ci := 8) (C := RX8) (T := TX8) (N := 13) hx hb hts iX8 hown hw k_a0 rfl rfl rfl 1 (by decide) (hts _ tw_223) (fun _ h9 => h9) dX8_endReign_1 rfl (fun v1 l_v1 h_v1 f_a0_X8_1 => ?_)
  have l_v1 : (-1) ≤ v1.toInt := l_v1
  have h_v1 : v1.toInt ≤ 5 := h_v1
  refine lv_iconst (v := (-1)) hx hb dX8_endReign_4 (by decide) ?_
  refine lv_icmp_eq (tgt := 48) hx hb dX8_endReign_5 (by decide) (fun c_5 => ?_) (fun c_5 => ?_)
  · simp only [fa_lt, fa_le, fa_eq, li_m1] at c_5
    rw [hQ]
    refine W.widen (k := 0) (n := 0) (Nat.le_refl _) (Nat.le_refl _) ?_
    exact W.vret hx hb hr (fun t ht hW => ⟨⟨ws, rfl, ⟨hw.2.2.2.2, hM⟩, by rw [ht]; exact hw.2.1, va_K.moved hW.alike hw.1, hw.2.2.1⟩, hw.2.2.2.1.F ht⟩) hw.2.2.2.1.2.2 dX8_endReign_48
  · simp only [fa_lt, fa_le, fa_eq, li_m1] at c_5
    refine lv_aload_n hx hb dX8_endReign_8 rfl (lv_at hl 0 rfl) ?_
    refine t_getr (k1 := 43) (ci := 8) (C := RX8) (T := TX8) (N := 13) hx hb hts iX8 hown hw k_a0 rfl rfl rfl 7 (by decide) (hts _ tw_238) (fun _ h9 => h9) dX8_endReign_9 rfl (fun v9 k_v9 f_a0_X8_7 => ?_)
    refine lv_aload_n hx hb dX8_endReign_12 rfl (lv_at hl 0 rfl) ?_
    refine t_getk (ci := 8) (C := RX8) (T := TX8) (N := 13) hx hb hts iX8 hown hw rfl 1 (by decide) (hts _ tw_223) (fun _ h9 => h9) dX8_endReign_13 f_a0_X8_1 ?_
    refine t_iald hx hb hw k_v9 rfl rfl (by omega) (show v1.toInt < 6 by omega) dX8_endReign_16 (fun v16 r_v16 s_v16 q_v16 => ?_)
    have l_v16 := i32_lo v16
    have h_v16 := i32_hi v16
    have J38 : ∀ (H : Heap) (locs : List Loc) (ls : Array Slot) (w38 : va_W), tW (dC, dI) tys κ B A s w38 H locs → Sm [(8, 1), (8, 2)] [] κ ws w38 → fld w38 a0 8 1 (.int v1) → fld w38 a0 8 7 (.ref v9) → lv_has ls 2 [(0, .ref a0), (1, .ref a1)] → W p l e (headSpec (ws_u yX8_endReign cX8_endReign 2 none) ({ frames := 0, cells := 0, slots := 0, locals := 0 })).room s m ([.ref a0, .ref a1] : List Value).toArray below meth c H locs 0 0 QQ (F0 m 38 ls []) := by
      intro H locs ls w38 hw hM f_a0_X8_1 f_a0_X8_7 hl
      refine lv_aload_n hx hb dX8_endReign_38 rfl (lv_at hl 0 rfl) ?_
      refine lv_iconst (v := (-1)) hx hb dX8_endReign_39 (by decide) ?_
      refine t_put (ci := 8) (C := RX8) (T := TX8) (N := 13) (v := .int (-1)) hx hb hts iX8 tyX8 tyX8_ok nmX8 hown hw k_a0 rfl rfl rfl 1 (by decide) (hts _ tw_223) (fun _ h9 => h9) rfl (tyX8_ok 1 (by decide)) rfl rfl (okV.int rfl (by decide) (by decide)) dX8_endReign_40 (fun w_1 H locs hw u => ?_)
      have hM := hM.up1 u (by decide)
      have f_a0_X8_1 := u.2.2
      have f_a0_X8_7 := u.1 _ _ _ _ f_a0_X8_7 (Or.inr (Or.inr (by decide)))
      refine lv_aload_n hx hb dX8_endReign_43 rfl (lv_at hl 0 rfl) ?_
      refine lv_iconst (v := (-1)) hx hb dX8_endReign_44 (by decide) ?_
      refine t_put (ci := 8) (C := RX8) (T := TX8) (N := 13) (v := .int (-1)) hx hb hts iX8 tyX8 tyX8_ok nmX8 hown hw k_a0 rfl rfl rfl 2 (by decide) (hts _ tw_227) (fun _ h9 => h9) rfl (tyX8_ok 2 (by decide)) rfl rfl (okV.int rfl (by decide) (by decide)) dX8_endReign_45 (fun w_2 H locs hw u => ?_)
      have hM := hM.up1 u (by decide)
      have f_a0_X8_1 := u.1 _ _ _ _ f_a0_X8_1 (Or.inr (Or.inr (by decide)))
      have f_a0_X8_7 := u.1 _ _ _ _ f_a0_X8_7 (Or.inr (Or.inr (by decide)))
      have f_a0_X8_2 := u.2.2
      rw [hQ]
      refine W.widen (k := 0) (n := 0) (Nat.le_refl _) (Nat.le_refl _) ?_
      exact W.vret hx hb hr (fun t ht hW => ⟨⟨w_2, rfl, ⟨hw.2.2.2.2, hM⟩, by rw [ht]; exact hw.2.1, va_K.moved hW.alike hw.1, hw.2.2.1⟩, hw.2.2.2.1.F ht⟩) hw.2.2.2.1.2.2 dX8_endReign_48
    refine lv_if_eq (tgt := 38) hx hb dX8_endReign_17 (by decide) (fun c_17 => ?_) (fun c_17 => ?_)
    · simp only [fa_lt, fa_le, fa_eq, li_0] at c_17
      exact J38 _ _ _ ws hw hM f_a0_X8_1 f_a0_X8_7 (lv_sub hl [0, 1] rfl)
    · simp only [fa_lt, fa_le, fa_eq, li_0] at c_17
      refine lv_aload_n hx hb dX8_endReign_20 rfl (lv_at hl 0 rfl) ?_
      refine t_geti (ci := 8) (C := RX8) (T := TX8) (N := 13) hx hb hts iX8 hown hw k_a0 rfl rfl rfl 0 (by decide) (hts _ tw_220) (fun _ h9 => h9) dX8_endReign_21 rfl (fun v21 l_v21 h_v21 f_a0_X8_0 => ?_)
      have l_v21 : (-2147483648) ≤ v21.toInt := l_v21
      have h_v21 : v21.toInt ≤ 2147483647 := h_v21
      refine lv_iconst (v := 1) hx hb dX8_endReign_24 (by decide) ?_
      refine lv_iadd hx hb dX8_endReign_25 ?_
      refine lv_topi (fun v25 e_v25 => ?_)
      have l_v25 := i32_lo v25
      have h_v25 := i32_hi v25
      refine lv_aload_n hx hb dX8_endReign_26 rfl (lv_at hl 0 rfl) ?_
      refine t_geti (ci := 8) (C := RX8) (T := TX8) (N := 13) hx hb hts iX8 hown hw k_a0 rfl rfl rfl 2 (by decide) (hts _ tw_227) (fun _ h9 => h9) dX8_endReign_27 rfl (fun v27 l_v27 h_v27 f_a0_X8_2 => ?_)
      have l_v27 : (-2147483648) ≤ v27.toInt := l_v27
      have h_v27 : v27.toInt ≤ 2147483647 := h_v27
      refine lv_isub hx hb dX8_endReign_30 ?_
      refine lv_topi (fun v30 e_v30 => ?_)
      have l_v30 := i32_lo v30
      have h_v30 := i32_hi v30
      refine lv_aload_n hx hb dX8_endReign_31 rfl (lv_at hl 1 rfl) ?_
      refine t_geti (ci := 0) (C := RX0) (T := TX0) (N := 16) hx hb hts iX0 hown hw k_a1 rfl rfl rfl 1 (by decide) (hts _ tw_71) (fun _ h9 => h9) dX8_endReign_32 rfl (fun v32 l_v32 h_v32 f_a1_X0_1 => ?_)
      have l_v32 : (-2147483648) ≤ v32.toInt := l_v32
      have h_v32 : v32.toInt ≤ 2147483647 := h_v32
      refine lv_icmp_lt (tgt := 48) hx hb dX8_endReign_35 (by decide) (fun c_35 => ?_) (fun c_35 => ?_)
      · simp only [fa_lt, fa_le, fa_eq] at c_35
        rw [hQ]
        refine W.widen (k := 0) (n := 0) (Nat.le_refl _) (Nat.le_refl _) ?_
        exact W.vret hx hb hr (fun t ht hW => ⟨⟨ws, rfl, ⟨hw.2.2.2.2, hM⟩, by rw [ht]; exact hw.2.1, va_K.moved hW.alike hw.1, hw.2.2.1⟩, hw.2.2.2.1.F ht⟩) hw.2.2.2.1.2.2 dX8_endReign_48
      · simp only [fa_lt, fa_le, fa_eq] at c_35
        exact J38 _ _ _ ws hw hM f_a0_X8_1 f_a0_X8_7 (lv_sub hl [0, 1] rfl)
set_option maxHeartbeats 4000000 in
set_option maxRecDepth 100000 in
theorem t_X8_fadeVoices (l : Launch) (dC : Nat → ClassId) (dI : Nat → Nat → Nat) (tys : List (ClassId × FieldType)) (κ : tK) (B : Nat) (ws : va_W) (hT : Ty κ tys B ws) (a0 : Nat) (k_a0 : κ a0 = some 8) (a1 : Nat) (k_a1 : κ a1 = some 0) (sz : Nat) : Met l yX8_fadeVoices (ws_u yX8_fadeVoices cX8_fadeVoices 3 none) ({ frames := 1, cells := 0, slots := 0, locals := 40 }) (va_Pc [.ref a0, .ref a1] (cPre (dC, dI) tys ws sz)) (va_Qv (fun (w : va_W) => Ty κ tys B w ∧ Sm [] [43] κ ws w) (fun w t => cPost (dC, dI) tys w (va_A ws sz) t) (va_A ws sz)) 0 0 (va_A ws sz) := by
  refine Met.ofW (cc := cX8_fadeVoices) (maxL := 3) (ret := none) (by decide) rfl ?_
  intro p e s m args below meth c s₁ B0 hml hv
  obtain ⟨rfl, hsz, hP, hK, hD0, hE⟩ := hv
  have hx := B0.exec
  have hb := B0.bytes
  have hr := B0.returns
  have hts0 := atoms_spec (ws := ws_u yX8_fadeVoices cX8_fadeVoices 3 none) B0.pre
  have hts : ∀ w ∈ gT, w.before _ s = true := fun w h => hts0 w (List.mem_cons_of_mem _ h)
  have hown : s.vm.findClass RX8 = some m.cls := findClass_of_methodNamed B0.named
  have hlocks := B0.notSynchronized
  subst hsz
  have hD := hD0.self (sz := s.heap.size)
  generalize hAe : va_A ws s.heap.size = A at hD ⊢
  have hA : ∀ q : Nat, s.heap.size ≤ q → A q := fun q h => by rw [← hAe]; exact Or.inr h
  have hw : tW (dC, dI) tys κ B A s ws s.heap [] := ⟨hK, hP, hD, va_S.rf, hT⟩
  have hM : Sm [] [43] κ ws ws := Sm.rf
  clear hP hK hD hD0 hts0
  have hl := lv_entry ([.ref a0, .ref a1]) (n := 3) (Nat.le_of_ble_eq_true rfl)
  rw [lg_entry_eq]
  generalize (lg_sl ([.ref a0, .ref a1]) ++ List.replicate (3 - (lg_sl ([.ref a0, .ref a1])).length) Slot.unset).toArray = ls at hl ⊢
  have hl : lv_has ls 3 [(0, .ref a0), (1, .ref a1)] := hl
  refine t_start (fun QQ hQ => ?_)
  refine lv_iconst (v := 0) hx hb dX8_fadeVoices_0 (by decide) ?_
  refine lv_istore_n (lv' := [(2, .int 0), (0, .ref a0), (1, .ref a1)]) hx hb dX8_fadeVoices_1 rfl hl (by decide) rfl (fun ls hl => ?_)
  have J2 : ∀ (n : Nat) (H : Heap) (locs : List Loc) (ls : Array Slot), (∃ (w2 : va_W) (p2_l2 : Int32), tW (dC, dI) tys κ B A s w2 H locs ∧ Sm [] [43] κ ws w2 ∧ 0 ≤ p2_l2.toInt ∧ p2_l2.toInt ≤ 6 ∧ lv_has ls 3 [(0, .ref a0), (1, .ref a1), (2, .int p2_l2)] ∧ (6 - p2_l2.toInt).toNat = n) → W p l e (headSpec (ws_u yX8_fadeVoices cX8_fadeVoices 3 none) ({ frames := 1, cells := 0, slots := 0, locals := 40 })).room s m ([.ref a0, .ref a1] : List Value).toArray below meth c H locs 0 0 QQ (F0 m 2 ls []) := by
    refine loopT _ ?_
    intro n_2 H locs ls hI ih_2
    obtain ⟨w2, p2_l2, hw, hM, l_p2_l2, h_p2_l2, hl, hn_2⟩ := hI
    refine lv_iload_n hx hb dX8_fadeVoices_2 rfl (lv_at hl 2 rfl) ?_
    refine lv_aload_n hx hb dX8_fadeVoices_3 rfl (lv_at hl 1 rfl) ?_
    refine t_geti (ci := 0) (C := RX0) (T := TX0) (N := 16) hx hb hts iX0 hown hw k_a1 rfl rfl rfl 3 (by decide) (hts _ tw_81) (fun _ h9 => h9) dX8_fadeVoices_4 rfl (fun v4 l_v4 h_v4 f_a1_X0_3 => ?_)
    have l_v4 : 0 ≤ v4.toInt := l_v4
    have h_v4 : v4.toInt ≤ 6 := h_v4
    refine lv_icmp_ge (tgt := 39) hx hb dX8_fadeVoices_7 (by decide) (fun c_7 => ?_) (fun c_7 => ?_)
    · simp only [fa_lt, fa_le, fa_eq] at c_7
      rw [hQ]
      refine W.widen (k := 0) (n := 0) (Nat.le_refl _) (Nat.le_refl _) ?_
      exact W.vret hx hb hr (fun t ht hW => ⟨⟨w2, rfl, ⟨hw.2.2.2.2, hM⟩, by rw [ht]; exact hw.2.1, va_K.moved hW.alike hw.1, hw.2.2.1⟩, hw.2.2.2.1.F ht⟩) hw.2.2.2.1.2.2 dX8_fadeVoices_39
    · simp only [fa_lt, fa_le, fa_eq] at c_7
      refine lv_aload_n hx hb dX8_fadeVoices_10 rfl (lv_at hl 0 rfl) ?_
      refine t_getr (k1 := 43) (ci := 8) (C := RX8) (T := TX8) (N := 13) hx hb hts iX8 hown hw k_a0 rfl rfl rfl 7 (by decide) (hts _ tw_238) (fun _ h9 => h9) dX8_fadeVoices_11 rfl (fun v11 k_v11 f_a0_X8_7 => ?_)
      refine lv_iload_n hx hb dX8_fadeVoices_14 rfl (lv_at hl 2 rfl) ?_
      refine lv_iconst (v := 0) hx hb dX8_fadeVoices_15 (by decide) ?_
      refine lv_aload_n hx hb dX8_fadeVoices_16 rfl (lv_at hl 0 rfl) ?_
      refine t_getk (ci := 8) (C := RX8) (T := TX8) (N := 13) hx hb hts iX8 hown hw rfl 7 (by decide) (hts _ tw_238) (fun _ h9 => h9) dX8_fadeVoices_17 f_a0_X8_7 ?_
      refine lv_iload_n hx hb dX8_fadeVoices_20 rfl (lv_at hl 2 rfl) ?_
      refine t_iald hx hb hw k_v11 rfl rfl (by omega) (show p2_l2.toInt < 6 by omega) dX8_fadeVoices_21 (fun v21 r_v21 s_v21 q_v21 => ?_)
      have l_v21 := i32_lo v21
      have h_v21 := i32_hi v21
      refine lv_aload_n hx hb dX8_fadeVoices_22 rfl (lv_at hl 1 rfl) ?_
      refine t_getr (k1 := 22) (ci := 0) (C := RX0) (T := TX0) (N := 16) hx hb hts iX0 hown hw k_a1 rfl rfl rfl 8 (by decide) (hts _ tw_99) (fun _ h9 => h9) dX8_fadeVoices_23 rfl (fun v23 k_v23 f_a1_X0_8 => ?_)
      refine lv_iload_n hx hb dX8_fadeVoices_26 rfl (lv_at hl 2 rfl) ?_
      refine t_iald hx hb hw k_v23 rfl rfl (by omega) (show p2_l2.toInt < 6 by omega) dX8_fadeVoices_27 (fun v27 r_v27 s_v27 q_v27 => ?_)
      have l_v27 := i32_lo v27
      have h_v27 := i32_hi v27
      refine lv_isub hx hb dX8_fadeVoices_28 ?_
      refine lv_topi (fun v28 e_v28 => ?_)
      have l_v28 := i32_lo v28
      have h_v28 := i32_hi v28
      refine va_mmax hx hb (hml.trans hl.1.symm) hown (hts _ tw_830) (hts _ tw_831) (hts _ tw_19) (hts _ tw_832) (Nat.le_of_ble_eq_true rfl) (Nat.le_of_ble_eq_true rfl) (Nat.le_of_ble_eq_true rfl) (Nat.le_of_ble_eq_true rfl) dX8_fadeVoices_29 ?_
      refine lv_topi (fun v29 e_v29 => ?_)
      have g_v29 := mx_i e_v29 li_0 rfl
      refine t_iast hx hb hw k_v11 rfl rfl (by omega) (show p2_l2.toInt < 6 by omega) (i32_lo _) (i32_hi _) dX8_fadeVoices_32 (fun w_1 H locs hw u => ?_)
      have hM := hM.up3 u k_v11 (by decide)
      have f_a1_X0_3 := u.1 _ _ _ _ f_a1_X0_3
      have f_a0_X8_7 := u.1 _ _ _ _ f_a0_X8_7
      have f_a1_X0_8 := u.1 _ _ _ _ f_a1_X0_8
      obtain ⟨v33, e_v33⟩ : ∃ y : Int32, y = p2_l2 + 1 := ⟨_, rfl⟩
      refine lv_iinc (v := v33) (lv' := [(2, .int v33), (0, .ref a0), (1, .ref a1)]) hx hb dX8_fadeVoices_33 hl (k := 2) rfl e_v33.symm (by decide) rfl (fun ls hl => ?_)
      have e_v33 : v33.toInt = p2_l2.toInt + 1 := ad_i e_v33 rfl li_1 (by omega) (by omega)
      refine lv_goto (tgt := 2) hx hb dX8_fadeVoices_36 (by decide) ?_
      exact ih_2 _ _ _ _ (by omega) ⟨w_1, v33, hw, hM, (by omega), (by omega), (lv_sub hl [1, 2, 0] rfl), rfl⟩
  exact J2 _ _ _ _ ⟨ws, 0, hw, hM, (by decide), (by decide), (lv_sub hl [1, 2, 0] rfl), rfl⟩
set_option maxHeartbeats 4000000 in
set_option maxRecDepth 100000 in
theorem t_X8_growOlder (l : Launch) (dC : Nat → ClassId) (dI : Nat → Nat → Nat) (tys : List (ClassId × FieldType)) (κ : tK) (B : Nat) (ws : va_W) (hT : Ty κ tys B ws) (a0 : Nat) (k_a0 : κ a0 = some 8) (a1 : Nat) (k_a1 : κ a1 = some 0) (sz : Nat) : Met l yX8_growOlder (ws_u yX8_growOlder cX8_growOlder 3 none) ({ frames := 0, cells := 0, slots := 0, locals := 0 }) (va_Pc [.ref a0, .ref a1] (cPre (dC, dI) tys ws sz)) (va_Qv (fun (w : va_W) => Ty κ tys B w ∧ Sm [(8, 6)] [46] κ ws w) (fun w t => cPost (dC, dI) tys w (va_A ws sz) t) (va_A ws sz)) 0 0 (va_A ws sz) := by
  refine Met.ofW (cc := cX8_growOlder) (maxL := 3) (ret := none) (by decide) rfl ?_
  intro p e s m args below meth c s₁ B0 hml hv
  obtain ⟨rfl, hsz, hP, hK, hD0, hE⟩ := hv
  have hx := B0.exec
  have hb := B0.bytes
  have hr := B0.returns
  have hts0 := atoms_spec (ws := ws_u yX8_growOlder cX8_growOlder 3 none) B0.pre
  have hts : ∀ w ∈ gT, w.before _ s = true := fun w h => hts0 w (List.mem_cons_of_mem _ h)
  have hown : s.vm.findClass RX8 = some m.cls := findClass_of_methodNamed B0.named
  have hlocks := B0.notSynchronized
  subst hsz
  have hD := hD0.self (sz := s.heap.size)
  generalize hAe : va_A ws s.heap.size = A at hD ⊢
  have hA : ∀ q : Nat, s.heap.size ≤ q → A q := fun q h => by rw [← hAe]; exact Or.inr h
  have hw : tW (dC, dI) tys κ B A s ws s.heap [] := ⟨hK, hP, hD, va_S.rf, hT⟩
  have hM : Sm [(8, 6)] [46] κ ws ws := Sm.rf
  clear hP hK hD hD0 hts0
  have hl := lv_entry ([.ref a0, .ref a1]) (n := 3) (Nat.le_of_ble_eq_true rfl)
  rw [lg_entry_eq]
  generalize (lg_sl ([.ref a0, .ref a1]) ++ List.replicate (3 - (lg_sl ([.ref a0, .ref a1])).length) Slot.unset).toArray = ls at hl ⊢
  have hl : lv_has ls 3 [(0, .ref a0), (1, .ref a1)] := hl
  refine t_start (fun QQ hQ => ?_)
  refine lv_iconst (v := 0) hx hb dX8_growOlder_0 (by decide) ?_
  refine lv_istore_n (lv' := [(2, .int 0), (0, .ref a0), (1, .ref a1)]) hx hb dX8_growOlder_1 rfl hl (by decide) rfl (fun ls hl => ?_)
  have J2 : ∀ (n : Nat) (H : Heap) (locs : List Loc) (ls : Array Slot), (∃ (w2 : va_W) (p2_l2 : Int32), tW (dC, dI) tys κ B A s w2 H locs ∧ Sm [(8, 6)] [46] κ ws w2 ∧ 0 ≤ p2_l2.toInt ∧ p2_l2.toInt ≤ 4 ∧ lv_has ls 3 [(0, .ref a0), (1, .ref a1), (2, .int p2_l2)] ∧ (4 - p2_l2.toInt).toNat = n) → W p l e (headSpec (ws_u yX8_growOlder cX8_growOlder 3 none) ({ frames := 0, cells := 0, slots := 0, locals := 0 })).room s m ([.ref a0, .ref a1] : List Value).toArray below meth c H locs 0 0 QQ (F0 m 2 ls []) := by
    refine loopT _ ?_
    intro n_2 H locs ls hI ih_2
    obtain ⟨w2, p2_l2, hw, hM, l_p2_l2, h_p2_l2, hl, hn_2⟩ := hI
    refine lv_iload_n hx hb dX8_growOlder_2 rfl (lv_at hl 2 rfl) ?_
    refine lv_aload_n hx hb dX8_growOlder_3 rfl (lv_at hl 1 rfl) ?_
    refine t_geti (ci := 0) (C := RX0) (T := TX0) (N := 16) hx hb hts iX0 hown hw k_a1 rfl rfl rfl 4 (by decide) (hts _ tw_84) (fun _ h9 => h9) dX8_growOlder_4 rfl (fun v4 l_v4 h_v4 f_a1_X0_4 => ?_)
    have l_v4 : 0 ≤ v4.toInt := l_v4
    have h_v4 : v4.toInt ≤ 4 := h_v4
    refine lv_icmp_ge (tgt := 63) hx hb dX8_growOlder_7 (by decide) (fun c_7 => ?_) (fun c_7 => ?_)
    · simp only [fa_lt, fa_le, fa_eq] at c_7
      rw [hQ]
      refine W.widen (k := 0) (n := 0) (Nat.le_refl _) (Nat.le_refl _) ?_
      exact W.vret hx hb hr (fun t ht hW => ⟨⟨w2, rfl, ⟨hw.2.2.2.2, hM⟩, by rw [ht]; exact hw.2.1, va_K.moved hW.alike hw.1, hw.2.2.1⟩, hw.2.2.2.1.F ht⟩) hw.2.2.2.1.2.2 dX8_growOlder_63
    · simp only [fa_lt, fa_le, fa_eq] at c_7
      refine lv_aload_n hx hb dX8_growOlder_10 rfl (lv_at hl 0 rfl) ?_
      refine t_getr (k1 := 46) (ci := 8) (C := RX8) (T := TX8) (N := 13) hx hb hts iX8 hown hw k_a0 rfl rfl rfl 10 (by decide) (hts _ tw_248) (fun _ h9 => h9) dX8_growOlder_11 rfl (fun v11 k_v11 f_a0_X8_10 => ?_)
      refine lv_iload_n hx hb dX8_growOlder_14 rfl (lv_at hl 2 rfl) ?_
      refine t_iald hx hb hw k_v11 rfl rfl (by omega) (show p2_l2.toInt < 4 by omega) dX8_growOlder_15 (fun v15 r_v15 s_v15 q_v15 => ?_)
      have l_v15 := i32_lo v15
      have h_v15 := i32_hi v15
      refine lv_bipush (v := 100) hx hb dX8_growOlder_16 (by decide) ?_
      have J57 : ∀ (H : Heap) (locs : List Loc) (ls : Array Slot) (w57 : va_W), tW (dC, dI) tys κ B A s w57 H locs → Sm [(8, 6)] [46] κ ws w57 → fld w57 a0 8 10 (.ref v11) → fld w57 a1 0 4 (.int v4) → lv_has ls 3 [(0, .ref a0), (1, .ref a1), (2, .int p2_l2)] → W p l e (headSpec (ws_u yX8_growOlder cX8_growOlder 3 none) ({ frames := 0, cells := 0, slots := 0, locals := 0 })).room s m ([.ref a0, .ref a1] : List Value).toArray below meth c H locs 0 0 QQ (F0 m 57 ls []) := by
        intro H locs ls w57 hw hM f_a0_X8_10 f_a1_X0_4 hl
        obtain ⟨v57, e_v57⟩ : ∃ y : Int32, y = p2_l2 + 1 := ⟨_, rfl⟩
        refine lv_iinc (v := v57) (lv' := [(2, .int v57), (0, .ref a0), (1, .ref a1)]) hx hb dX8_growOlder_57 hl (k := 2) rfl e_v57.symm (by decide) rfl (fun ls hl => ?_)
        have e_v57 : v57.toInt = p2_l2.toInt + 1 := ad_i e_v57 rfl li_1 (by omega) (by omega)
        refine lv_goto (tgt := 2) hx hb dX8_growOlder_60 (by decide) ?_
        exact ih_2 _ _ _ _ (by omega) ⟨w57, v57, hw, hM, (by omega), (by omega), (lv_sub hl [1, 2, 0] rfl), rfl⟩
      refine lv_icmp_lt (tgt := 24) hx hb dX8_growOlder_18 (by decide) (fun c_18 => ?_) (fun c_18 => ?_)
      · simp only [fa_lt, fa_le, fa_eq, li_100] at c_18
        refine lv_aload_n hx hb dX8_growOlder_24 rfl (lv_at hl 0 rfl) ?_
        refine t_getk (ci := 8) (C := RX8) (T := TX8) (N := 13) hx hb hts iX8 hown hw rfl 10 (by decide) (hts _ tw_248) (fun _ h9 => h9) dX8_growOlder_25 f_a0_X8_10 ?_
        refine lv_iload_n hx hb dX8_growOlder_28 rfl (lv_at hl 2 rfl) ?_
        refine lv_dup2_11 hx hb dX8_growOlder_29 rfl rfl ?_
        refine t_iald hx hb hw k_v11 rfl rfl (by omega) (show p2_l2.toInt < 4 by omega) dX8_growOlder_30 (fun v30 r_v30 s_v30 q_v30 => ?_)
        have l_v30 := i32_lo v30
        have h_v30 := i32_hi v30
        refine lv_iconst (v := 1) hx hb dX8_growOlder_31 (by decide) ?_
        refine lv_iadd hx hb dX8_growOlder_32 ?_
        refine lv_topi (fun v32 e_v32 => ?_)
        have l_v32 := i32_lo v32
        have h_v32 := i32_hi v32
        refine t_iast hx hb hw k_v11 rfl rfl (by omega) (show p2_l2.toInt < 4 by omega) (i32_lo _) (i32_hi _) dX8_growOlder_33 (fun w_1 H locs hw u => ?_)
        have hM := hM.up3 u k_v11 (by decide)
        have f_a1_X0_4 := u.1 _ _ _ _ f_a1_X0_4
        have f_a0_X8_10 := u.1 _ _ _ _ f_a0_X8_10
        refine lv_aload_n hx hb dX8_growOlder_34 rfl (lv_at hl 0 rfl) ?_
        refine t_getk (ci := 8) (C := RX8) (T := TX8) (N := 13) hx hb hts iX8 hown hw rfl 10 (by decide) (hts _ tw_248) (fun _ h9 => h9) dX8_growOlder_35 f_a0_X8_10 ?_
        refine lv_iload_n hx hb dX8_growOlder_38 rfl (lv_at hl 2 rfl) ?_
        refine t_iald hx hb hw k_v11 rfl rfl (by omega) (show p2_l2.toInt < 4 by omega) dX8_growOlder_39 (fun v39 r_v39 s_v39 q_v39 => ?_)
        have l_v39 := i32_lo v39
        have h_v39 := i32_hi v39
        refine lv_bipush (v := 100) hx hb dX8_growOlder_40 (by decide) ?_
        refine lv_icmp_ne (tgt := 57) hx hb dX8_growOlder_42 (by decide) (fun c_42 => ?_) (fun c_42 => ?_)
        · simp only [fa_lt, fa_le, fa_eq, li_100] at c_42
          exact J57 _ _ _ w_1 hw hM f_a0_X8_10 f_a1_X0_4 (lv_sub hl [0, 1, 2] rfl)
        · simp only [fa_lt, fa_le, fa_eq, li_100] at c_42
          refine lv_aload_n hx hb dX8_growOlder_45 rfl (lv_at hl 0 rfl) ?_
          refine lv_dup hx hb dX8_growOlder_46 rfl ?_
          refine t_geti (ci := 8) (C := RX8) (T := TX8) (N := 13) hx hb hts iX8 hown hw k_a0 rfl rfl rfl 6 (by decide) (hts _ tw_236) (fun _ h9 => h9) dX8_growOlder_47 rfl (fun v47 l_v47 h_v47 f_a0_X8_6 => ?_)
          have l_v47 : (-2147483648) ≤ v47.toInt := l_v47
          have h_v47 : v47.toInt ≤ 2147483647 := h_v47
          refine lv_iconst (v := 1) hx hb dX8_growOlder_50 (by decide) ?_
          refine lv_iload_n hx hb dX8_growOlder_51 rfl (lv_at hl 2 rfl) ?_
          refine lv_ishl hx hb dX8_growOlder_52 ?_
          refine lv_topi (fun v52 e_v52 => ?_)
          have ⟨l_v52, h_v52⟩ := sh_i e_v52 (by omega) (by omega)
          refine lv_ior hx hb dX8_growOlder_53 ?_
          refine lv_topi (fun v53 e_v53 => ?_)
          have l_v53 := i32_lo v53
          have h_v53 := i32_hi v53
          refine t_put (ci := 8) (C := RX8) (T := TX8) (N := 13) (v := .int v53) hx hb hts iX8 tyX8 tyX8_ok nmX8 hown hw k_a0 rfl rfl rfl 6 (by decide) (hts _ tw_236) (fun _ h9 => h9) rfl (tyX8_ok 6 (by decide)) rfl rfl (okV.int rfl (by omega) (by omega)) dX8_growOlder_54 (fun w_2 H locs hw u => ?_)
          have hM := hM.up1 u (by decide)
          have f_a1_X0_4 := u.1 _ _ _ _ f_a1_X0_4 (Or.inr (Or.inl (by decide)))
          have f_a0_X8_10 := u.1 _ _ _ _ f_a0_X8_10 (Or.inr (Or.inr (by decide)))
          have f_a0_X8_6 := u.2.2
          exact J57 _ _ _ w_2 hw hM f_a0_X8_10 f_a1_X0_4 (lv_sub hl [0, 1, 2] rfl)
      · simp only [fa_lt, fa_le, fa_eq, li_100] at c_18
        refine lv_goto (tgt := 57) hx hb dX8_growOlder_21 (by decide) ?_
        exact J57 _ _ _ w2 hw hM f_a0_X8_10 f_a1_X0_4 (lv_sub hl [0, 1, 2] rfl)
  exact J2 _ _ _ _ ⟨ws, 0, hw, hM, (by decide), (by decide), (lv_sub hl [1, 2, 0] rfl), rfl⟩
set_option maxHeartbeats 4000000 in
set_option maxRecDepth 100000 in
theorem t_X8_layBy (l : Launch) (dC : Nat → ClassId) (dI : Nat → Nat → Nat) (tys : List (ClassId × FieldType)) (κ : tK) (B : Nat) (ws : va_W) (hT : Ty κ tys B ws) (a0 : Nat) (k_a0 : κ a0 = some 8) (a1 : Nat) (k_a1 : κ a1 = some 0) (sz : Nat) : Met l yX8_layBy (ws_u yX8_layBy cX8_layBy 3 none) ({ frames := 1, cells := 0, slots := 0, locals := 40 }) (va_Pc [.ref a0, .ref a1] (cPre (dC, dI) tys ws sz)) (va_Qv (fun (w : va_W) => Ty κ tys B w ∧ Sm [] [48] κ ws w) (fun w t => cPost (dC, dI) tys w (va_A ws sz) t) (va_A ws sz)) 0 0 (va_A ws sz) := by
  refine Met.ofW (cc := cX8_layBy) (maxL := 3) (ret := none) (by decide) rfl ?_
  intro p e s m args below meth c s₁ B0 hml hv
  obtain ⟨rfl, hsz, hP, hK, hD0, hE⟩ := hv
  have hx := B0.exec
  have hb := B0.bytes
  have hr := B0.returns
  have hts0 := atoms_spec (ws := ws_u yX8_layBy cX8_layBy 3 none) B0.pre
  have hts : ∀ w ∈ gT, w.before _ s = true := fun w h => hts0 w (List.mem_cons_of_mem _ h)
  have hown : s.vm.findClass RX8 = some m.cls := findClass_of_methodNamed B0.named
  have hlocks := B0.notSynchronized
  subst hsz
  have hD := hD0.self (sz := s.heap.size)
  generalize hAe : va_A ws s.heap.size = A at hD ⊢
  have hA : ∀ q : Nat, s.heap.size ≤ q → A q := fun q h => by rw [← hAe]; exact Or.inr h
  have hw : tW (dC, dI) tys κ B A s ws s.heap [] := ⟨hK, hP, hD, va_S.rf, hT⟩
  have hM : Sm [] [48] κ ws ws := Sm.rf
  clear hP hK hD hD0 hts0
  have hl := lv_entry ([.ref a0, .ref a1]) (n := 3) (Nat.le_of_ble_eq_true rfl)
  rw [lg_entry_eq]
  generalize (lg_sl ([.ref a0, .ref a1]) ++ List.replicate (3 - (lg_sl ([.ref a0, .ref a1])).length) Slot.unset).toArray = ls at hl ⊢
  have hl : lv_has ls 3 [(0, .ref a0), (1, .ref a1)] := hl
  refine t_start (fun QQ hQ => ?_)
  refine lv_iconst (v := 0) hx hb dX8_layBy_0 (by decide) ?_
  refine lv_istore_n (lv' := [(2, .int 0), (0, .ref a0), (1, .ref a1)]) hx hb dX8_layBy_1 rfl hl (by decide) rfl (fun ls hl => ?_)
  have J2 : ∀ (n : Nat) (H : Heap) (locs : List Loc) (ls : Array Slot), (∃ (w2 : va_W) (p2_l2 : Int32), tW (dC, dI) tys κ B A s w2 H locs ∧ Sm [] [48] κ ws w2 ∧ 0 ≤ p2_l2.toInt ∧ p2_l2.toInt ≤ 6 ∧ lv_has ls 3 [(0, .ref a0), (1, .ref a1), (2, .int p2_l2)] ∧ (6 - p2_l2.toInt).toNat = n) → W p l e (headSpec (ws_u yX8_layBy cX8_layBy 3 none) ({ frames := 1, cells := 0, slots := 0, locals := 40 })).room s m ([.ref a0, .ref a1] : List Value).toArray below meth c H locs 0 0 QQ (F0 m 2 ls []) := by
    refine loopT _ ?_
    intro n_2 H locs ls hI ih_2
    obtain ⟨w2, p2_l2, hw, hM, l_p2_l2, h_p2_l2, hl, hn_2⟩ := hI
    refine lv_iload_n hx hb dX8_layBy_2 rfl (lv_at hl 2 rfl) ?_
    refine lv_aload_n hx hb dX8_layBy_3 rfl (lv_at hl 1 rfl) ?_
    refine t_geti (ci := 0) (C := RX0) (T := TX0) (N := 16) hx hb hts iX0 hown hw k_a1 rfl rfl rfl 5 (by decide) (hts _ tw_88) (fun _ h9 => h9) dX8_layBy_4 rfl (fun v4 l_v4 h_v4 f_a1_X0_5 => ?_)
    have l_v4 : 0 ≤ v4.toInt := l_v4
    have h_v4 : v4.toInt ≤ 6 := h_v4
    refine lv_icmp_ge (tgt := 44) hx hb dX8_layBy_7 (by decide) (fun c_7 => ?_) (fun c_7 => ?_)
    · simp only [fa_lt, fa_le, fa_eq] at c_7
      rw [hQ]
      refine W.widen (k := 0) (n := 0) (Nat.le_refl _) (Nat.le_refl _) ?_
      exact W.vret hx hb hr (fun t ht hW => ⟨⟨w2, rfl, ⟨hw.2.2.2.2, hM⟩, by rw [ht]; exact hw.2.1, va_K.moved hW.alike hw.1, hw.2.2.1⟩, hw.2.2.2.1.F ht⟩) hw.2.2.2.1.2.2 dX8_layBy_44
    · simp only [fa_lt, fa_le, fa_eq] at c_7
      refine lv_aload_n hx hb dX8_layBy_10 rfl (lv_at hl 0 rfl) ?_
      refine t_getr (k1 := 48) (ci := 8) (C := RX8) (T := TX8) (N := 13) hx hb hts iX8 hown hw k_a0 rfl rfl rfl 12 (by decide) (hts _ tw_252) (fun _ h9 => h9) dX8_layBy_11 rfl (fun v11 k_v11 f_a0_X8_12 => ?_)
      refine lv_iload_n hx hb dX8_layBy_14 rfl (lv_at hl 2 rfl) ?_
      refine lv_aload_n hx hb dX8_layBy_15 rfl (lv_at hl 1 rfl) ?_
      refine t_getr (k1 := 26) (ci := 0) (C := RX0) (T := TX0) (N := 16) hx hb hts iX0 hown hw k_a1 rfl rfl rfl 12 (by decide) (hts _ tw_112) (fun _ h9 => h9) dX8_layBy_16 rfl (fun v16 k_v16 f_a1_X0_12 => ?_)
      refine lv_iload_n hx hb dX8_layBy_19 rfl (lv_at hl 2 rfl) ?_
      refine t_iald hx hb hw k_v16 rfl rfl (by omega) (show p2_l2.toInt < 6 by omega) dX8_layBy_20 (fun v20 r_v20 s_v20 q_v20 => ?_)
      have l_v20 := i32_lo v20
      have h_v20 := i32_hi v20
      refine lv_aload_n hx hb dX8_layBy_21 rfl (lv_at hl 0 rfl) ?_
      refine t_getk (ci := 8) (C := RX8) (T := TX8) (N := 13) hx hb hts iX8 hown hw rfl 12 (by decide) (hts _ tw_252) (fun _ h9 => h9) dX8_layBy_22 f_a0_X8_12 ?_
      refine lv_iload_n hx hb dX8_layBy_25 rfl (lv_at hl 2 rfl) ?_
      refine t_iald hx hb hw k_v11 rfl rfl (by omega) (show p2_l2.toInt < 6 by omega) dX8_layBy_26 (fun v26 r_v26 s_v26 q_v26 => ?_)
      have l_v26 := i32_lo v26
      have h_v26 := i32_hi v26
      refine lv_aload_n hx hb dX8_layBy_27 rfl (lv_at hl 1 rfl) ?_
      refine t_getr (k1 := 27) (ci := 0) (C := RX0) (T := TX0) (N := 16) hx hb hts iX0 hown hw k_a1 rfl rfl rfl 13 (by decide) (hts _ tw_117) (fun _ h9 => h9) dX8_layBy_28 rfl (fun v28 k_v28 f_a1_X0_13 => ?_)
      refine lv_iload_n hx hb dX8_layBy_31 rfl (lv_at hl 2 rfl) ?_
      refine t_iald hx hb hw k_v28 rfl rfl (by omega) (show p2_l2.toInt < 6 by omega) dX8_layBy_32 (fun v32 r_v32 s_v32 q_v32 => ?_)
      have l_v32 := i32_lo v32
      have h_v32 := i32_hi v32
      refine lv_iadd hx hb dX8_layBy_33 ?_
      refine lv_topi (fun v33 e_v33 => ?_)
      have l_v33 := i32_lo v33
      have h_v33 := i32_hi v33
      refine va_mmin hx hb (hml.trans hl.1.symm) hown (hts _ tw_825) (hts _ tw_615) (hts _ tw_19) (hts _ tw_616) (Nat.le_of_ble_eq_true rfl) (Nat.le_of_ble_eq_true rfl) (Nat.le_of_ble_eq_true rfl) (Nat.le_of_ble_eq_true rfl) dX8_layBy_34 ?_
      refine lv_topi (fun v34 e_v34 => ?_)
      have g_v34 := mn_i e_v34 rfl rfl
      refine t_iast hx hb hw k_v11 rfl rfl (by omega) (show p2_l2.toInt < 6 by omega) (i32_lo _) (i32_hi _) dX8_layBy_37 (fun w_1 H locs hw u => ?_)
      have hM := hM.up3 u k_v11 (by decide)
      have f_a1_X0_5 := u.1 _ _ _ _ f_a1_X0_5
      have f_a0_X8_12 := u.1 _ _ _ _ f_a0_X8_12
      have f_a1_X0_12 := u.1 _ _ _ _ f_a1_X0_12
      have f_a1_X0_13 := u.1 _ _ _ _ f_a1_X0_13
      obtain ⟨v38, e_v38⟩ : ∃ y : Int32, y = p2_l2 + 1 := ⟨_, rfl⟩
      refine lv_iinc (v := v38) (lv' := [(2, .int v38), (0, .ref a0), (1, .ref a1)]) hx hb dX8_layBy_38 hl (k := 2) rfl e_v38.symm (by decide) rfl (fun ls hl => ?_)
      have e_v38 : v38.toInt = p2_l2.toInt + 1 := ad_i e_v38 rfl li_1 (by omega) (by omega)
      refine lv_goto (tgt := 2) hx hb dX8_layBy_41 (by decide) ?_
      exact ih_2 _ _ _ _ (by omega) ⟨w_1, v38, hw, hM, (by omega), (by omega), (lv_sub hl [1, 2, 0] rfl), rfl⟩
  exact J2 _ _ _ _ ⟨ws, 0, hw, hM, (by decide), (by decide), (lv_sub hl [1, 2, 0] rfl), rfl⟩
set_option maxHeartbeats 4000000 in
set_option maxRecDepth 100000 in
theorem t_X8_endDay (l : Launch) (dC : Nat → ClassId) (dI : Nat → Nat → Nat) (tys : List (ClassId × FieldType)) (κ : tK) (B : Nat) (ws : va_W) (hT : Ty κ tys B ws) (a0 : Nat) (k_a0 : κ a0 = some 8) (a1 : Nat) (k_a1 : κ a1 = some 0) (sz : Nat) : Met l yX8_endDay (ws_u yX8_endDay cX8_endDay 2 none) ({ frames := 2, cells := 0, slots := 0, locals := 62 }) (va_Pc [.ref a0, .ref a1] (cPre (dC, dI) tys ws sz)) (va_Qv (fun (w : va_W) => Ty κ tys B w ∧ Sm [(8, 0), (8, 1), (8, 2), (8, 3), (8, 6)] [43, 46, 48] κ ws w) (fun w t => cPost (dC, dI) tys w (va_A ws sz) t) (va_A ws sz)) 0 0 (va_A ws sz) := by
  refine Met.ofW (cc := cX8_endDay) (maxL := 2) (ret := none) (by decide) rfl ?_
  intro p e s m args below meth c s₁ B0 hml hv
  obtain ⟨rfl, hsz, hP, hK, hD0, hE⟩ := hv
  have hx := B0.exec
  have hb := B0.bytes
  have hr := B0.returns
  have hts0 := atoms_spec (ws := ws_u yX8_endDay cX8_endDay 2 none) B0.pre
  have hts : ∀ w ∈ gT, w.before _ s = true := fun w h => hts0 w (List.mem_cons_of_mem _ h)
  have hown : s.vm.findClass RX8 = some m.cls := findClass_of_methodNamed B0.named
  have hlocks := B0.notSynchronized
  subst hsz
  have hD := hD0.self (sz := s.heap.size)
  generalize hAe : va_A ws s.heap.size = A at hD ⊢
  have hA : ∀ q : Nat, s.heap.size ≤ q → A q := fun q h => by rw [← hAe]; exact Or.inr h
  have hw : tW (dC, dI) tys κ B A s ws s.heap [] := ⟨hK, hP, hD, va_S.rf, hT⟩
  have hM : Sm [(8, 0), (8, 1), (8, 2), (8, 3), (8, 6)] [43, 46, 48] κ ws ws := Sm.rf
  clear hP hK hD hD0 hts0
  have hl := lv_entry ([.ref a0, .ref a1]) (n := 2) (Nat.le_of_ble_eq_true rfl)
  rw [lg_entry_eq]
  generalize (lg_sl ([.ref a0, .ref a1]) ++ List.replicate (2 - (lg_sl ([.ref a0, .ref a1])).length) Slot.unset).toArray = ls at hl ⊢
  have hl : lv_has ls 2 [(0, .ref a0), (1, .ref a1)] := hl
  refine t_start (fun QQ hQ => ?_)
  refine lv_aload_n hx hb dX8_endDay_0 rfl (lv_at hl 1 rfl) ?_
  refine lv_aload_n hx hb dX8_endDay_1 rfl (lv_at hl 0 rfl) ?_
  refine t_geti (ci := 8) (C := RX8) (T := TX8) (N := 13) hx hb hts iX8 hown hw k_a0 rfl rfl rfl 0 (by decide) (hts _ tw_220) (fun _ h9 => h9) dX8_endDay_2 rfl (fun v2 l_v2 h_v2 f_a0_X8_0 => ?_)
  have l_v2 : (-2147483648) ≤ v2.toInt := l_v2
  have h_v2 : v2.toInt ≤ 2147483647 := h_v2
  refine t_calli (va_runV (As := [.int v2]) (rest := []) ⟨hx, hb, hml, hown, hts⟩ (t_X0_snowsOn l dC dI tys κ B ws hw.2.2.2.2 a1 k_a1 v2 s.heap.size) (cwV 1 hts (gUV tw_817 tw_818 tw_819 tw_4 tw_820) rfl rfl rfl (by decide +kernel) ⟨(Nat.le_of_ble_eq_true rfl), (Nat.le_of_ble_eq_true rfl)⟩) ⟨cPre.blind, t_recv hw (ci := 0) k_a1 rfl rfl, cPre.use hw.2.1 hw.1 hw.2.2.1 hE⟩ rfl rfl hl.1 rfl (lv_room (Nat.le_of_ble_eq_true rfl)) dX8_endDay_5 ⟨(Nat.le_of_ble_eq_true rfl), (Nat.le_of_ble_eq_true rfl)⟩) hw hA (fun _ _ h => h.2.2.1) (fun v5 w_1 H locs hp hw => ?_)
  obtain ⟨l_v5, h_v5, _, hm, x_v5_0⟩ := hp
  have hM := hM.trans hm (by decide) (by decide)
  have f_a0_X8_0 := hm.1 _ _ _ _ f_a0_X8_0 (by decide)
  have J16 : ∀ (H : Heap) (locs : List Loc) (ls : Array Slot) (w16 : va_W), tW (dC, dI) tys κ B A s w16 H locs → Sm [(8, 0), (8, 1), (8, 2), (8, 3), (8, 6)] [43, 46, 48] κ ws w16 → fld w16 a0 8 0 (.int v2) → lv_has ls 2 [(0, .ref a0), (1, .ref a1)] → W p l e (headSpec (ws_u yX8_endDay cX8_endDay 2 none) ({ frames := 2, cells := 0, slots := 0, locals := 62 })).room s m ([.ref a0, .ref a1] : List Value).toArray below meth c H locs 0 0 QQ (F0 m 16 ls []) := by
    intro H locs ls w16 hw hM f_a0_X8_0 hl
    refine lv_aload_n hx hb dX8_endDay_16 rfl (lv_at hl 0 rfl) ?_
    refine lv_aload_n hx hb dX8_endDay_17 rfl (lv_at hl 1 rfl) ?_
    refine t_callv (va_runV (As := [.ref a1]) (rest := []) ⟨hx, hb, hml, hown, hts⟩ (t_X8_fadeVoices l dC dI tys κ B w16 hw.2.2.2.2 a0 k_a0 a1 k_a1 H.size) (cwV 1 hts (gUV tw_826 tw_828 ts_1_10 tw_8 tw_829) rfl rfl rfl (by decide +kernel) ⟨(Nat.le_of_ble_eq_true rfl), (Nat.le_of_ble_eq_true rfl)⟩) ⟨cPre.blind, t_recv hw (ci := 8) k_a0 rfl rfl, cPre.use hw.2.1 hw.1 hw.2.2.1 hE⟩ rfl rfl hl.1 rfl (lv_room (Nat.le_of_ble_eq_true rfl)) dX8_endDay_18 ⟨(Nat.le_of_ble_eq_true rfl), (Nat.le_of_ble_eq_true rfl)⟩) hw hA (fun _ h => h.1) (fun w_2 H locs hp hw => ?_)
    obtain ⟨_, hm⟩ := hp
    have hM := hM.trans hm (by decide) (by decide)
    have f_a0_X8_0 := hm.1 _ _ _ _ f_a0_X8_0 (by decide)
    refine lv_aload_n hx hb dX8_endDay_21 rfl (lv_at hl 0 rfl) ?_
    refine lv_aload_n hx hb dX8_endDay_22 rfl (lv_at hl 1 rfl) ?_
    refine t_callv (va_runV (As := [.ref a1]) (rest := []) ⟨hx, hb, hml, hown, hts⟩ (t_X8_endReign l dC dI tys κ B w_2 hw.2.2.2.2 a0 k_a0 a1 k_a1 H.size) (cwV 1 hts (gUV tw_833 tw_835 ts_1_11 tw_8 tw_836) rfl rfl rfl (by decide +kernel) ⟨(Nat.le_of_ble_eq_true rfl), (Nat.le_of_ble_eq_true rfl)⟩) ⟨cPre.blind, t_recv hw (ci := 8) k_a0 rfl rfl, cPre.use hw.2.1 hw.1 hw.2.2.1 hE⟩ rfl rfl hl.1 rfl (lv_room (Nat.le_of_ble_eq_true rfl)) dX8_endDay_23 ⟨(Nat.le_of_ble_eq_true rfl), (Nat.le_of_ble_eq_true rfl)⟩) hw hA (fun _ h => h.1) (fun w_3 H locs hp hw => ?_)
    obtain ⟨_, hm⟩ := hp
    have hM := hM.trans hm (by decide) (by decide)
    have f_a0_X8_0 := hm.1 _ _ _ _ f_a0_X8_0 (by decide)
    refine lv_aload_n hx hb dX8_endDay_26 rfl (lv_at hl 0 rfl) ?_
    refine t_getk (ci := 8) (C := RX8) (T := TX8) (N := 13) hx hb hts iX8 hown hw rfl 0 (by decide) (hts _ tw_220) (fun _ h9 => h9) dX8_endDay_27 f_a0_X8_0 ?_
    refine lv_bipush (v := 10) hx hb dX8_endDay_30 (by decide) ?_
    refine lv_irem hx hb dX8_endDay_32 (ne_i li_10 (by decide)) ?_
    refine lv_topi (fun v32 e_v32 => ?_)
    have l_v32 := i32_lo v32
    have h_v32 := i32_hi v32
    refine lv_bipush (v := 9) hx hb dX8_endDay_33 (by decide) ?_
    have J43 : ∀ (H : Heap) (locs : List Loc) (ls : Array Slot) (w43 : va_W), tW (dC, dI) tys κ B A s w43 H locs → Sm [(8, 0), (8, 1), (8, 2), (8, 3), (8, 6)] [43, 46, 48] κ ws w43 → fld w43 a0 8 0 (.int v2) → lv_has ls 2 [(0, .ref a0), (1, .ref a1)] → W p l e (headSpec (ws_u yX8_endDay cX8_endDay 2 none) ({ frames := 2, cells := 0, slots := 0, locals := 62 })).room s m ([.ref a0, .ref a1] : List Value).toArray below meth c H locs 0 0 QQ (F0 m 43 ls []) := by
      intro H locs ls w43 hw hM f_a0_X8_0 hl
      refine lv_aload_n hx hb dX8_endDay_43 rfl (lv_at hl 0 rfl) ?_
      refine lv_dup hx hb dX8_endDay_44 rfl ?_
      refine t_getk (ci := 8) (C := RX8) (T := TX8) (N := 13) hx hb hts iX8 hown hw rfl 0 (by decide) (hts _ tw_220) (fun _ h9 => h9) dX8_endDay_45 f_a0_X8_0 ?_
      refine lv_iconst (v := 1) hx hb dX8_endDay_48 (by decide) ?_
      refine lv_iadd hx hb dX8_endDay_49 ?_
      refine lv_topi (fun v49 e_v49 => ?_)
      have l_v49 := i32_lo v49
      have h_v49 := i32_hi v49
      refine t_put (ci := 8) (C := RX8) (T := TX8) (N := 13) (v := .int v49) hx hb hts iX8 tyX8 tyX8_ok nmX8 hown hw k_a0 rfl rfl rfl 0 (by decide) (hts _ tw_220) (fun _ h9 => h9) rfl (tyX8_ok 0 (by decide)) rfl rfl (okV.int rfl (by omega) (by omega)) dX8_endDay_50 (fun w_4 H locs hw u => ?_)
      have hM := hM.up1 u (by decide)
      have f_a0_X8_0 := u.2.2
      refine lv_aload_n hx hb dX8_endDay_53 rfl (lv_at hl 0 rfl) ?_
      refine lv_iconst (v := 0) hx hb dX8_endDay_54 (by decide) ?_
      refine t_put (ci := 8) (C := RX8) (T := TX8) (N := 13) (v := .int 0) hx hb hts iX8 tyX8 tyX8_ok nmX8 hown hw k_a0 rfl rfl rfl 3 (by decide) (hts _ tw_229) (fun _ h9 => h9) rfl (tyX8_ok 3 (by decide)) rfl rfl (okV.int rfl (by decide) (by decide)) dX8_endDay_55 (fun w_5 H locs hw u => ?_)
      have hM := hM.up1 u (by decide)
      have f_a0_X8_0 := u.1 _ _ _ _ f_a0_X8_0 (Or.inr (Or.inr (by decide)))
      have f_a0_X8_3 := u.2.2
      rw [hQ]
      refine W.widen (k := 0) (n := 0) (Nat.le_refl _) (Nat.le_refl _) ?_
      exact W.vret hx hb hr (fun t ht hW => ⟨⟨w_5, rfl, ⟨hw.2.2.2.2, hM⟩, by rw [ht]; exact hw.2.1, va_K.moved hW.alike hw.1, hw.2.2.1⟩, hw.2.2.2.1.F ht⟩) hw.2.2.2.1.2.2 dX8_endDay_58
    refine lv_icmp_ne (tgt := 43) hx hb dX8_endDay_35 (by decide) (fun c_35 => ?_) (fun c_35 => ?_)
    · simp only [fa_lt, fa_le, fa_eq, li_9] at c_35
      exact J43 _ _ _ w_3 hw hM f_a0_X8_0 (lv_sub hl [0, 1] rfl)
    · simp only [fa_lt, fa_le, fa_eq, li_9] at c_35
      refine lv_aload_n hx hb dX8_endDay_38 rfl (lv_at hl 0 rfl) ?_
      refine lv_aload_n hx hb dX8_endDay_39 rfl (lv_at hl 1 rfl) ?_
      refine t_callv (va_runV (As := [.ref a1]) (rest := []) ⟨hx, hb, hml, hown, hts⟩ (t_X8_growOlder l dC dI tys κ B w_3 hw.2.2.2.2 a0 k_a0 a1 k_a1 H.size) (cwV 1 hts (gUV tw_837 tw_839 ts_1_12 tw_8 tw_840) rfl rfl rfl (by decide +kernel) ⟨(Nat.le_of_ble_eq_true rfl), (Nat.le_of_ble_eq_true rfl)⟩) ⟨cPre.blind, t_recv hw (ci := 8) k_a0 rfl rfl, cPre.use hw.2.1 hw.1 hw.2.2.1 hE⟩ rfl rfl hl.1 rfl (lv_room (Nat.le_of_ble_eq_true rfl)) dX8_endDay_40 ⟨(Nat.le_of_ble_eq_true rfl), (Nat.le_of_ble_eq_true rfl)⟩) hw hA (fun _ h => h.1) (fun w_6 H locs hp hw => ?_)
      obtain ⟨_, hm⟩ := hp
      have hM := hM.trans hm (by decide) (by decide)
      have f_a0_X8_0 := hm.1 _ _ _ _ f_a0_X8_0 (by decide)
      exact J43 _ _ _ w_6 hw hM f_a0_X8_0 (lv_sub hl [0, 1] rfl)
  refine lv_if_ne (tgt := 16) hx hb dX8_endDay_8 (by decide) (fun c_8 => ?_) (fun c_8 => ?_)
  · simp only [fa_lt, fa_le, fa_eq, li_0] at c_8
    exact J16 _ _ _ w_1 hw hM f_a0_X8_0 (lv_sub hl [0, 1] rfl)
  · simp only [fa_lt, fa_le, fa_eq, li_0] at c_8
    refine lv_aload_n hx hb dX8_endDay_11 rfl (lv_at hl 0 rfl) ?_
    refine lv_aload_n hx hb dX8_endDay_12 rfl (lv_at hl 1 rfl) ?_
    refine t_callv (va_runV (As := [.ref a1]) (rest := []) ⟨hx, hb, hml, hown, hts⟩ (t_X8_layBy l dC dI tys κ B w_1 hw.2.2.2.2 a0 k_a0 a1 k_a1 H.size) (cwV 1 hts (gUV tw_821 tw_823 ts_1_9 tw_8 tw_824) rfl rfl rfl (by decide +kernel) ⟨(Nat.le_of_ble_eq_true rfl), (Nat.le_of_ble_eq_true rfl)⟩) ⟨cPre.blind, t_recv hw (ci := 8) k_a0 rfl rfl, cPre.use hw.2.1 hw.1 hw.2.2.1 hE⟩ rfl rfl hl.1 rfl (lv_room (Nat.le_of_ble_eq_true rfl)) dX8_endDay_13 ⟨(Nat.le_of_ble_eq_true rfl), (Nat.le_of_ble_eq_true rfl)⟩) hw hA (fun _ h => h.1) (fun w_7 H locs hp hw => ?_)
    obtain ⟨_, hm⟩ := hp
    have hM := hM.trans hm (by decide) (by decide)
    have f_a0_X8_0 := hm.1 _ _ _ _ f_a0_X8_0 (by decide)
    exact J16 _ _ _ w_7 hw hM f_a0_X8_0 (lv_sub hl [0, 1] rfl)
set_option maxHeartbeats 4000000 in
set_option maxRecDepth 100000 in
theorem t_X3_pass (l : Launch) (dC : Nat → ClassId) (dI : Nat → Nat → Nat) (tys : List (ClassId × FieldType)) (κ : tK) (B : Nat) (ws : va_W) (hT : Ty κ tys B ws) (a0 : Nat) (k_a0 : κ a0 = some 3) (a1 : Nat) (k_a1 : κ a1 = some 0) (a2 : Nat) (k_a2 : κ a2 = some 8) (a3 : Option Nat) (k_a3 : ∀ q : Nat, a3 = some q → κ q = some 6) (sz : Nat) : Met l yX3_pass (ws_u yX3_pass cX3_pass 5 (some .boolean)) ({ frames := 4, cells := 0, slots := 0, locals := 98 }) (va_Pc [.ref a0, .ref a1, .ref a2, va_rf a3] (cPre (dC, dI) tys ws sz)) (va_Qi (fun (r : Int32) (w : va_W) => 0 ≤ r.toInt ∧ r.toInt ≤ 1 ∧ Ty κ tys B w ∧ Sm [(5, 0), (5, 1), (5, 5), (8, 0), (8, 1), (8, 2), (8, 3), (8, 6)] [33, 34, 35, 36, 42, 43, 45, 46, 48] κ ws w) (fun w t => cPost (dC, dI) tys w (va_A ws sz) t) (va_A ws sz)) 0 0 (va_A ws sz) := by
  refine Met.ofW (cc := cX3_pass) (maxL := 5) (ret := (some .boolean)) (by decide) rfl ?_
  intro p e s m args below meth c s₁ B0 hml hv
  obtain ⟨rfl, hsz, hP, hK, hD0, hE⟩ := hv
  have hx := B0.exec
  have hb := B0.bytes
  have hr := B0.returns
  have hts0 := atoms_spec (ws := ws_u yX3_pass cX3_pass 5 (some .boolean)) B0.pre
  have hts : ∀ w ∈ gT, w.before _ s = true := fun w h => hts0 w (List.mem_cons_of_mem _ h)
  have hown : s.vm.findClass RX3 = some m.cls := findClass_of_methodNamed B0.named
  have hlocks := B0.notSynchronized
  subst hsz
  have hD := hD0.self (sz := s.heap.size)
  generalize hAe : va_A ws s.heap.size = A at hD ⊢
  have hA : ∀ q : Nat, s.heap.size ≤ q → A q := fun q h => by rw [← hAe]; exact Or.inr h
  have hw : tW (dC, dI) tys κ B A s ws s.heap [] := ⟨hK, hP, hD, va_S.rf, hT⟩
  have hM : Sm [(5, 0), (5, 1), (5, 5), (8, 0), (8, 1), (8, 2), (8, 3), (8, 6)] [33, 34, 35, 36, 42, 43, 45, 46, 48] κ ws ws := Sm.rf
  clear hP hK hD hD0 hts0
  rcases a3 with _ | a3
  · have hl := lv_entry ([.ref a0, .ref a1, .ref a2, .null]) (n := 5) (Nat.le_of_ble_eq_true rfl)
    show W p l e (headSpec (ws_u yX3_pass cX3_pass 5 (some .boolean)) ({ frames := 4, cells := 0, slots := 0, locals := 98 })).room s m ([.ref a0, .ref a1, .ref a2, va_rf none] : List Value).toArray below meth c s.heap [] 0 0 _ (entryFrame m ([.ref a0, .ref a1, .ref a2, .null] : List Value).toArray 5)
    rw [lg_entry_eq]
    generalize (lg_sl ([.ref a0, .ref a1, .ref a2, .null]) ++ List.replicate (5 - (lg_sl ([.ref a0, .ref a1, .ref a2, .null])).length) Slot.unset).toArray = ls at hl ⊢
    have hl : lv_has ls 5 [(0, .ref a0), (1, .ref a1), (2, .ref a2), (3, .null)] := hl
    refine t_start (fun QQ hQ => ?_)
    refine lv_iconst (v := 0) hx hb dX3_pass_0 (by decide) ?_
    refine lv_istore (lv' := [(4, .int 0), (0, .ref a0), (1, .ref a1), (2, .ref a2), (3, .null)]) hx hb dX3_pass_1 hl (by decide) rfl (fun ls hl => ?_)
    refine lv_aload_n hx hb dX3_pass_3 rfl (lv_at hl 3 rfl) ?_
    refine t_geti (ci := 8) (C := RX8) (T := TX8) (N := 13) hx hb hts iX8 hown hw k_a2 rfl rfl rfl 1 (by decide) (hts _ tw_224) (fun _ h9 => h9) dX3_pass_4 rfl (fun v4 l_v4 h_v4 f_a2_X8_1 => ?_)
    have l_v4 : (-1) ≤ v4.toInt := l_v4
    have h_v4 : v4.toInt ≤ 5 := h_v4
    refine lv_iconst (v := (-1)) hx hb dX3_pass_7 (by decide) ?_
    have J55 : ∀ (H : Heap) (locs : List Loc) (ls : Array Slot) (w55 : va_W) (p55_l4 : Int32), tW (dC, dI) tys κ B A s w55 H locs → Sm [(5, 0), (5, 1), (5, 5), (8, 0), (8, 1), (8, 2), (8, 3), (8, 6)] [33, 34, 35, 36, 42, 43, 45, 46, 48] κ ws w55 → 0 ≤ p55_l4.toInt → p55_l4.toInt ≤ 1 → lv_has ls 5 [(0, .ref a0), (1, .ref a1), (2, .ref a2), (3, .null), (4, .int p55_l4)] → W p l e (headSpec (ws_u yX3_pass cX3_pass 5 (some .boolean)) ({ frames := 4, cells := 0, slots := 0, locals := 98 })).room s m ([.ref a0, .ref a1, .ref a2, va_rf none] : List Value).toArray below meth c H locs 0 0 QQ (F0 m 55 ls []) := by
      intro H locs ls w55 p55_l4 hw hM l_p55_l4 h_p55_l4 hl
      refine lv_aload_n hx hb dX3_pass_55 rfl (lv_at hl 2 rfl) ?_
      refine lv_aload_n hx hb dX3_pass_56 rfl (lv_at hl 1 rfl) ?_
      refine t_callv (va_runV (As := [.ref a1]) (rest := []) ⟨hx, hb, hml, hown, hts⟩ (t_X8_endDay l dC dI tys κ B w55 hw.2.2.2.2 a2 k_a2 a1 k_a1 H.size) (cwV 1 hts (gUV tw_813 tw_814 tw_815 tw_8 tw_816) rfl rfl rfl (by decide +kernel) ⟨(Nat.le_of_ble_eq_true rfl), (Nat.le_of_ble_eq_true rfl)⟩) ⟨cPre.blind, t_recv hw (ci := 8) k_a2 rfl rfl, cPre.use hw.2.1 hw.1 hw.2.2.1 hE⟩ rfl rfl hl.1 rfl (lv_room (Nat.le_of_ble_eq_true rfl)) dX3_pass_57 ⟨(Nat.le_of_ble_eq_true rfl), (Nat.le_of_ble_eq_true rfl)⟩) hw hA (fun _ h => h.1) (fun w_1 H locs hp hw => ?_)
      obtain ⟨_, hm⟩ := hp
      have hM := hM.trans hm (by decide) (by decide)
      refine lv_iload hx hb dX3_pass_60 (lv_at hl 4 rfl) ?_
      rw [hQ]
      refine W.widen (k := 0) (n := 0) (Nat.le_refl _) (Nat.le_refl _) ?_
      exact W.zret (v := p55_l4) hx hb hr (nb_i (by omega) (by omega)) (fun t ht hW => ⟨⟨p55_l4, w_1, rfl, ⟨(by omega), (by omega), hw.2.2.2.2, hM⟩, by rw [ht]; exact hw.2.1, va_K.moved hW.alike hw.1, hw.2.2.1⟩, hw.2.2.2.1.F ht⟩) hw.2.2.2.1.2.2 dX3_pass_62
    refine lv_icmp_ne (tgt := 55) hx hb dX3_pass_8 (by decide) (fun c_8 => ?_) (fun c_8 => ?_)
    · simp only [fa_lt, fa_le, fa_eq, li_m1] at c_8
      exact J55 _ _ _ ws 0 hw hM (by decide) (by decide) (lv_sub hl [1, 2, 3, 4, 0] rfl)
    · simp only [fa_lt, fa_le, fa_eq, li_m1] at c_8
      refine lv_aload_n hx hb dX3_pass_11 rfl (lv_at hl 1 rfl) ?_
      refine t_getr (k1 := 5) (ci := 3) (C := RX3) (T := TX3) (N := 4) hx hb hts iX3 hown hw k_a0 rfl rfl rfl 0 (by decide) (hts _ tw_379) (fun _ h9 => h9) dX3_pass_12 rfl (fun v12 k_v12 f_a0_X3_0 => ?_)
      refine lv_aload_n hx hb dX3_pass_15 rfl (lv_at hl 2 rfl) ?_
      refine lv_aload_n hx hb dX3_pass_16 rfl (lv_at hl 3 rfl) ?_
      refine lv_aload_nN hx hb dX3_pass_17 rfl (lv_at hl 4 rfl) ?_
      refine t_callv (va_runV (As := [.ref a1, .ref a2, .null]) (rest := []) ⟨hx, hb, hml, hown, hts⟩ (t_X5_hold l dC dI tys κ B ws hw.2.2.2.2 v12 k_v12 a1 k_a1 a2 k_a2 none (fun _ h => by cases h) s.heap.size) (cwV 3 hts (gUV tw_764 tw_765 tw_766 tw_10 tw_767) rfl rfl rfl (by decide +kernel) ⟨(Nat.le_of_ble_eq_true rfl), (Nat.le_of_ble_eq_true rfl)⟩) ⟨cPre.blind, t_recv hw (ci := 5) k_v12 rfl rfl, cPre.use hw.2.1 hw.1 hw.2.2.1 hE⟩ rfl rfl hl.1 rfl (lv_room (Nat.le_of_ble_eq_true rfl)) dX3_pass_18 ⟨(Nat.le_of_ble_eq_true rfl), (Nat.le_of_ble_eq_true rfl)⟩) hw hA (fun _ h => h.1) (fun w_2 H locs hp hw => ?_)
      obtain ⟨_, hm⟩ := hp
      have hM := hM.trans hm (by decide) (by decide)
      have f_a2_X8_1 := hm.1 _ _ _ _ f_a2_X8_1 (by decide)
      have f_a0_X3_0 := hm.1 _ _ _ _ f_a0_X3_0 (by decide)
      refine lv_aload_n hx hb dX3_pass_21 rfl (lv_at hl 1 rfl) ?_
      refine t_getk (ci := 3) (C := RX3) (T := TX3) (N := 4) hx hb hts iX3 hown hw rfl 0 (by decide) (hts _ tw_379) (fun _ h9 => h9) dX3_pass_22 f_a0_X3_0 ?_
      refine t_geti (ci := 5) (C := RX5) (T := TX5) (N := 8) hx hb hts iX5 hown hw k_v12 rfl rfl rfl 5 (by decide) (hts _ tw_351) (fun _ h9 => h9) dX3_pass_25 rfl (fun v25 l_v25 h_v25 f_v12_X5_5 => ?_)
      have l_v25 : (-1) ≤ v25.toInt := l_v25
      have h_v25 : v25.toInt ≤ 5 := h_v25
      refine lv_iconst (v := (-1)) hx hb dX3_pass_28 (by decide) ?_
      refine lv_icmp_eq (tgt := 36) hx hb dX3_pass_29 (by decide) (fun c_29 => ?_) (fun c_29 => ?_)
      · simp only [fa_lt, fa_le, fa_eq, li_m1] at c_29
        refine lv_iconst (v := 0) hx hb dX3_pass_36 (by decide) ?_
        refine lv_istore (lv' := [(4, .int 0), (0, .ref a0), (1, .ref a1), (2, .ref a2), (3, .null)]) hx hb dX3_pass_37 hl (by decide) rfl (fun ls hl => ?_)
        refine lv_iload hx hb dX3_pass_39 (lv_at hl 0 rfl) ?_
        refine lv_if_eq (tgt := 55) hx hb dX3_pass_41 (by decide) (fun _ => ?_) (fun c_41 => absurd c_41 (by decide))
        exact J55 _ _ _ w_2 0 hw hM (by decide) (by decide) (lv_sub hl [1, 2, 3, 4, 0] rfl)
      · simp only [fa_lt, fa_le, fa_eq, li_m1] at c_29
        refine lv_iconst (v := 1) hx hb dX3_pass_32 (by decide) ?_
        refine lv_goto (tgt := 37) hx hb dX3_pass_33 (by decide) ?_
        refine lv_istore (lv' := [(4, .int 1), (0, .ref a0), (1, .ref a1), (2, .ref a2), (3, .null)]) hx hb dX3_pass_37 hl (by decide) rfl (fun ls hl => ?_)
        refine lv_iload hx hb dX3_pass_39 (lv_at hl 0 rfl) ?_
        refine lv_if_eq (tgt := 55) hx hb dX3_pass_41 (by decide) (fun c_41 => absurd c_41 (by decide)) (fun _ => ?_)
        refine lv_aload_n hx hb dX3_pass_44 rfl (lv_at hl 3 rfl) ?_
        refine lv_aload_n hx hb dX3_pass_45 rfl (lv_at hl 1 rfl) ?_
        refine t_getk (ci := 3) (C := RX3) (T := TX3) (N := 4) hx hb hts iX3 hown hw rfl 0 (by decide) (hts _ tw_379) (fun _ h9 => h9) dX3_pass_46 f_a0_X3_0 ?_
        refine t_getk (ci := 5) (C := RX5) (T := TX5) (N := 8) hx hb hts iX5 hown hw rfl 5 (by decide) (hts _ tw_351) (fun _ h9 => h9) dX3_pass_49 f_v12_X5_5 ?_
        refine t_callv (va_runV (As := [.int v25]) (rest := []) ⟨hx, hb, hml, hown, hts⟩ (t_X8_crown l dC dI tys κ B w_2 hw.2.2.2.2 a2 k_a2 v25 (by omega) (by omega) H.size) (cwV 1 hts (gUV tw_809 tw_810 tw_811 tw_8 tw_812) rfl rfl rfl (by decide +kernel) ⟨(Nat.le_of_ble_eq_true rfl), (Nat.le_of_ble_eq_true rfl)⟩) ⟨cPre.blind, t_recv hw (ci := 8) k_a2 rfl rfl, cPre.use hw.2.1 hw.1 hw.2.2.1 hE⟩ rfl rfl hl.1 rfl (lv_room (Nat.le_of_ble_eq_true rfl)) dX3_pass_52 ⟨(Nat.le_of_ble_eq_true rfl), (Nat.le_of_ble_eq_true rfl)⟩) hw hA (fun _ h => h.1) (fun w_3 H locs hp hw => ?_)
        obtain ⟨_, hm⟩ := hp
        have hM := hM.trans hm (by decide) (by decide)
        have f_a0_X3_0 := hm.1 _ _ _ _ f_a0_X3_0 (by decide)
        have f_v12_X5_5 := hm.1 _ _ _ _ f_v12_X5_5 (by decide)
        exact J55 _ _ _ w_3 1 hw hM (by decide) (by decide) (lv_sub hl [1, 2, 3, 4, 0] rfl)
  · have k_a3 := k_a3 _ rfl
    have hl := lv_entry ([.ref a0, .ref a1, .ref a2, .ref a3]) (n := 5) (Nat.le_of_ble_eq_true rfl)
    show W p l e (headSpec (ws_u yX3_pass cX3_pass 5 (some .boolean)) ({ frames := 4, cells := 0, slots := 0, locals := 98 })).room s m ([.ref a0, .ref a1, .ref a2, va_rf (some a3)] : List Value).toArray below meth c s.heap [] 0 0 _ (entryFrame m ([.ref a0, .ref a1, .ref a2, .ref a3] : List Value).toArray 5)
    rw [lg_entry_eq]
    generalize (lg_sl ([.ref a0, .ref a1, .ref a2, .ref a3]) ++ List.replicate (5 - (lg_sl ([.ref a0, .ref a1, .ref a2, .ref a3])).length) Slot.unset).toArray = ls at hl ⊢
    have hl : lv_has ls 5 [(0, .ref a0), (1, .ref a1), (2, .ref a2), (3, .ref a3)] := hl
    refine t_start (fun QQ hQ => ?_)
    refine lv_iconst (v := 0) hx hb dX3_pass_0 (by decide) ?_
    refine lv_istore (lv' := [(4, .int 0), (0, .ref a0), (1, .ref a1), (2, .ref a2), (3, .ref a3)]) hx hb dX3_pass_1 hl (by decide) rfl (fun ls hl => ?_)
    refine lv_aload_n hx hb dX3_pass_3 rfl (lv_at hl 3 rfl) ?_
    refine t_geti (ci := 8) (C := RX8) (T := TX8) (N := 13) hx hb hts iX8 hown hw k_a2 rfl rfl rfl 1 (by decide) (hts _ tw_224) (fun _ h9 => h9) dX3_pass_4 rfl (fun v4 l_v4 h_v4 f_a2_X8_1 => ?_)
    have l_v4 : (-1) ≤ v4.toInt := l_v4
    have h_v4 : v4.toInt ≤ 5 := h_v4
    refine lv_iconst (v := (-1)) hx hb dX3_pass_7 (by decide) ?_
    have J55 : ∀ (H : Heap) (locs : List Loc) (ls : Array Slot) (w55 : va_W) (p55_l4 : Int32), tW (dC, dI) tys κ B A s w55 H locs → Sm [(5, 0), (5, 1), (5, 5), (8, 0), (8, 1), (8, 2), (8, 3), (8, 6)] [33, 34, 35, 36, 42, 43, 45, 46, 48] κ ws w55 → 0 ≤ p55_l4.toInt → p55_l4.toInt ≤ 1 → lv_has ls 5 [(0, .ref a0), (1, .ref a1), (2, .ref a2), (3, .ref a3), (4, .int p55_l4)] → W p l e (headSpec (ws_u yX3_pass cX3_pass 5 (some .boolean)) ({ frames := 4, cells := 0, slots := 0, locals := 98 })).room s m ([.ref a0, .ref a1, .ref a2, va_rf (some a3)] : List Value).toArray below meth c H locs 0 0 QQ (F0 m 55 ls []) := by
      intro H locs ls w55 p55_l4 hw hM l_p55_l4 h_p55_l4 hl
      refine lv_aload_n hx hb dX3_pass_55 rfl (lv_at hl 2 rfl) ?_
      refine lv_aload_n hx hb dX3_pass_56 rfl (lv_at hl 1 rfl) ?_
      refine t_callv (va_runV (As := [.ref a1]) (rest := []) ⟨hx, hb, hml, hown, hts⟩ (t_X8_endDay l dC dI tys κ B w55 hw.2.2.2.2 a2 k_a2 a1 k_a1 H.size) (cwV 1 hts (gUV tw_813 tw_814 tw_815 tw_8 tw_816) rfl rfl rfl (by decide +kernel) ⟨(Nat.le_of_ble_eq_true rfl), (Nat.le_of_ble_eq_true rfl)⟩) ⟨cPre.blind, t_recv hw (ci := 8) k_a2 rfl rfl, cPre.use hw.2.1 hw.1 hw.2.2.1 hE⟩ rfl rfl hl.1 rfl (lv_room (Nat.le_of_ble_eq_true rfl)) dX3_pass_57 ⟨(Nat.le_of_ble_eq_true rfl), (Nat.le_of_ble_eq_true rfl)⟩) hw hA (fun _ h => h.1) (fun w_4 H locs hp hw => ?_)
      obtain ⟨_, hm⟩ := hp
      have hM := hM.trans hm (by decide) (by decide)
      refine lv_iload hx hb dX3_pass_60 (lv_at hl 4 rfl) ?_
      rw [hQ]
      refine W.widen (k := 0) (n := 0) (Nat.le_refl _) (Nat.le_refl _) ?_
      exact W.zret (v := p55_l4) hx hb hr (nb_i (by omega) (by omega)) (fun t ht hW => ⟨⟨p55_l4, w_4, rfl, ⟨(by omega), (by omega), hw.2.2.2.2, hM⟩, by rw [ht]; exact hw.2.1, va_K.moved hW.alike hw.1, hw.2.2.1⟩, hw.2.2.2.1.F ht⟩) hw.2.2.2.1.2.2 dX3_pass_62
    refine lv_icmp_ne (tgt := 55) hx hb dX3_pass_8 (by decide) (fun c_8 => ?_) (fun c_8 => ?_)
    · simp only [fa_lt, fa_le, fa_eq, li_m1] at c_8
      exact J55 _ _ _ ws 0 hw hM (by decide) (by decide) (lv_sub hl [1, 2, 3, 4, 0] rfl)
    · simp only [fa_lt, fa_le, fa_eq, li_m1] at c_8
      refine lv_aload_n hx hb dX3_pass_11 rfl (lv_at hl 1 rfl) ?_
      refine t_getr (k1 := 5) (ci := 3) (C := RX3) (T := TX3) (N := 4) hx hb hts iX3 hown hw k_a0 rfl rfl rfl 0 (by decide) (hts _ tw_379) (fun _ h9 => h9) dX3_pass_12 rfl (fun v12 k_v12 f_a0_X3_0 => ?_)
      refine lv_aload_n hx hb dX3_pass_15 rfl (lv_at hl 2 rfl) ?_
      refine lv_aload_n hx hb dX3_pass_16 rfl (lv_at hl 3 rfl) ?_
      refine lv_aload_n hx hb dX3_pass_17 rfl (lv_at hl 4 rfl) ?_
      refine t_callv (va_runV (As := [.ref a1, .ref a2, .ref a3]) (rest := []) ⟨hx, hb, hml, hown, hts⟩ (t_X5_hold l dC dI tys κ B ws hw.2.2.2.2 v12 k_v12 a1 k_a1 a2 k_a2 (some a3) (fun _ h => by cases h; exact k_a3) s.heap.size) (cwV 3 hts (gUV tw_764 tw_765 tw_766 tw_10 tw_767) rfl rfl rfl (by decide +kernel) ⟨(Nat.le_of_ble_eq_true rfl), (Nat.le_of_ble_eq_true rfl)⟩) ⟨cPre.blind, t_recv hw (ci := 5) k_v12 rfl rfl, cPre.use hw.2.1 hw.1 hw.2.2.1 hE⟩ rfl rfl hl.1 rfl (lv_room (Nat.le_of_ble_eq_true rfl)) dX3_pass_18 ⟨(Nat.le_of_ble_eq_true rfl), (Nat.le_of_ble_eq_true rfl)⟩) hw hA (fun _ h => h.1) (fun w_5 H locs hp hw => ?_)
      obtain ⟨_, hm⟩ := hp
      have hM := hM.trans hm (by decide) (by decide)
      have f_a2_X8_1 := hm.1 _ _ _ _ f_a2_X8_1 (by decide)
      have f_a0_X3_0 := hm.1 _ _ _ _ f_a0_X3_0 (by decide)
      refine lv_aload_n hx hb dX3_pass_21 rfl (lv_at hl 1 rfl) ?_
      refine t_getk (ci := 3) (C := RX3) (T := TX3) (N := 4) hx hb hts iX3 hown hw rfl 0 (by decide) (hts _ tw_379) (fun _ h9 => h9) dX3_pass_22 f_a0_X3_0 ?_
      refine t_geti (ci := 5) (C := RX5) (T := TX5) (N := 8) hx hb hts iX5 hown hw k_v12 rfl rfl rfl 5 (by decide) (hts _ tw_351) (fun _ h9 => h9) dX3_pass_25 rfl (fun v25 l_v25 h_v25 f_v12_X5_5 => ?_)
      have l_v25 : (-1) ≤ v25.toInt := l_v25
      have h_v25 : v25.toInt ≤ 5 := h_v25
      refine lv_iconst (v := (-1)) hx hb dX3_pass_28 (by decide) ?_
      refine lv_icmp_eq (tgt := 36) hx hb dX3_pass_29 (by decide) (fun c_29 => ?_) (fun c_29 => ?_)
      · simp only [fa_lt, fa_le, fa_eq, li_m1] at c_29
        refine lv_iconst (v := 0) hx hb dX3_pass_36 (by decide) ?_
        refine lv_istore (lv' := [(4, .int 0), (0, .ref a0), (1, .ref a1), (2, .ref a2), (3, .ref a3)]) hx hb dX3_pass_37 hl (by decide) rfl (fun ls hl => ?_)
        refine lv_iload hx hb dX3_pass_39 (lv_at hl 0 rfl) ?_
        refine lv_if_eq (tgt := 55) hx hb dX3_pass_41 (by decide) (fun _ => ?_) (fun c_41 => absurd c_41 (by decide))
        exact J55 _ _ _ w_5 0 hw hM (by decide) (by decide) (lv_sub hl [1, 2, 3, 4, 0] rfl)
      · simp only [fa_lt, fa_le, fa_eq, li_m1] at c_29
        refine lv_iconst (v := 1) hx hb dX3_pass_32 (by decide) ?_
        refine lv_goto (tgt := 37) hx hb dX3_pass_33 (by decide) ?_
        refine lv_istore (lv' := [(4, .int 1), (0, .ref a0), (1, .ref a1), (2, .ref a2), (3, .ref a3)]) hx hb dX3_pass_37 hl (by decide) rfl (fun ls hl => ?_)
        refine lv_iload hx hb dX3_pass_39 (lv_at hl 0 rfl) ?_
        refine lv_if_eq (tgt := 55) hx hb dX3_pass_41 (by decide) (fun c_41 => absurd c_41 (by decide)) (fun _ => ?_)
        refine lv_aload_n hx hb dX3_pass_44 rfl (lv_at hl 3 rfl) ?_
        refine lv_aload_n hx hb dX3_pass_45 rfl (lv_at hl 1 rfl) ?_
        refine t_getk (ci := 3) (C := RX3) (T := TX3) (N := 4) hx hb hts iX3 hown hw rfl 0 (by decide) (hts _ tw_379) (fun _ h9 => h9) dX3_pass_46 f_a0_X3_0 ?_
        refine t_getk (ci := 5) (C := RX5) (T := TX5) (N := 8) hx hb hts iX5 hown hw rfl 5 (by decide) (hts _ tw_351) (fun _ h9 => h9) dX3_pass_49 f_v12_X5_5 ?_
        refine t_callv (va_runV (As := [.int v25]) (rest := []) ⟨hx, hb, hml, hown, hts⟩ (t_X8_crown l dC dI tys κ B w_5 hw.2.2.2.2 a2 k_a2 v25 (by omega) (by omega) H.size) (cwV 1 hts (gUV tw_809 tw_810 tw_811 tw_8 tw_812) rfl rfl rfl (by decide +kernel) ⟨(Nat.le_of_ble_eq_true rfl), (Nat.le_of_ble_eq_true rfl)⟩) ⟨cPre.blind, t_recv hw (ci := 8) k_a2 rfl rfl, cPre.use hw.2.1 hw.1 hw.2.2.1 hE⟩ rfl rfl hl.1 rfl (lv_room (Nat.le_of_ble_eq_true rfl)) dX3_pass_52 ⟨(Nat.le_of_ble_eq_true rfl), (Nat.le_of_ble_eq_true rfl)⟩) hw hA (fun _ h => h.1) (fun w_6 H locs hp hw => ?_)
        obtain ⟨_, hm⟩ := hp
        have hM := hM.trans hm (by decide) (by decide)
        have f_a0_X3_0 := hm.1 _ _ _ _ f_a0_X3_0 (by decide)
        have f_v12_X5_5 := hm.1 _ _ _ _ f_v12_X5_5 (by decide)
        exact J55 _ _ _ w_6 1 hw hM (by decide) (by decide) (lv_sub hl [1, 2, 3, 4, 0] rfl)
set_option maxHeartbeats 4000000 in
set_option maxRecDepth 100000 in
theorem t_X11_ahead (l : Launch) (dC : Nat → ClassId) (dI : Nat → Nat → Nat) (tys : List (ClassId × FieldType)) (κ : tK) (B : Nat) (ws : va_W) (hT : Ty κ tys B ws) (a0 : Nat) (k_a0 : κ a0 = some 11) (a1 : Int32) (a2 : Int32) (a3 : Int32) (sz : Nat) : Met l yX11_ahead (ws_u yX11_ahead cX11_ahead 5 (some .int)) ({ frames := 5, cells := 0, slots := 0, locals := 122 }) (va_Pc [.ref a0, .int a1, .int a2, .int a3] (cPre (dC, dI) tys ws sz)) (va_Qi (fun (r : Int32) (w : va_W) => Ty κ tys B w ∧ Sm [(5, 0), (5, 1), (5, 5), (8, 0), (8, 1), (8, 2), (8, 3), (8, 4), (8, 5), (8, 6)] [33, 34, 35, 36, 42, 43, 44, 45, 46, 47, 48] κ ws w) (fun w t => cPost (dC, dI) tys w (va_A ws sz) t) (va_A ws sz)) 0 0 (va_A ws sz) := by
  refine Met.ofW (cc := cX11_ahead) (maxL := 5) (ret := (some .int)) (by decide) rfl ?_
  intro p e s m args below meth c s₁ B0 hml hv
  obtain ⟨rfl, hsz, hP, hK, hD0, hE⟩ := hv
  have hx := B0.exec
  have hb := B0.bytes
  have hr := B0.returns
  have hts0 := atoms_spec (ws := ws_u yX11_ahead cX11_ahead 5 (some .int)) B0.pre
  have hts : ∀ w ∈ gT, w.before _ s = true := fun w h => hts0 w (List.mem_cons_of_mem _ h)
  have hown : s.vm.findClass RX11 = some m.cls := findClass_of_methodNamed B0.named
  have hlocks := B0.notSynchronized
  subst hsz
  have hD := hD0.self (sz := s.heap.size)
  generalize hAe : va_A ws s.heap.size = A at hD ⊢
  have hA : ∀ q : Nat, s.heap.size ≤ q → A q := fun q h => by rw [← hAe]; exact Or.inr h
  have hw : tW (dC, dI) tys κ B A s ws s.heap [] := ⟨hK, hP, hD, va_S.rf, hT⟩
  have hM : Sm [(5, 0), (5, 1), (5, 5), (8, 0), (8, 1), (8, 2), (8, 3), (8, 4), (8, 5), (8, 6)] [33, 34, 35, 36, 42, 43, 44, 45, 46, 47, 48] κ ws ws := Sm.rf
  clear hP hK hD hD0 hts0
  have l_a1 := i32_lo a1
  have h_a1 := i32_hi a1
  have l_a2 := i32_lo a2
  have h_a2 := i32_hi a2
  have l_a3 := i32_lo a3
  have h_a3 := i32_hi a3
  have hl := lv_entry ([.ref a0, .int a1, .int a2, .int a3]) (n := 5) (Nat.le_of_ble_eq_true rfl)
  rw [lg_entry_eq]
  generalize (lg_sl ([.ref a0, .int a1, .int a2, .int a3]) ++ List.replicate (5 - (lg_sl ([.ref a0, .int a1, .int a2, .int a3])).length) Slot.unset).toArray = ls at hl ⊢
  have hl : lv_has ls 5 [(0, .ref a0), (1, .int a1), (2, .int a2), (3, .int a3)] := hl
  refine t_start (fun QQ hQ => ?_)
  refine lv_aload_n hx hb dX11_ahead_0 rfl (lv_at hl 0 rfl) ?_
  refine t_getr (k1 := 10) (ci := 11) (C := RX11) (T := TX11) (N := 12) hx hb hts iX11 hown hw k_a0 rfl rfl rfl 5 (by decide) (hts _ tw_428) (fun _ h9 => h9) dX11_ahead_1 rfl (fun v1 k_v1 f_a0_X11_5 => ?_)
  refine t_getr (k1 := 0) (ci := 10) (C := RX10) (T := TX10) (N := 8) hx hb hts iX10 hown hw k_v1 rfl rfl rfl 0 (by decide) (hts _ tw_282) (fun _ h9 => h9) dX11_ahead_4 rfl (fun v4 k_v4 f_v1_X10_0 => ?_)
  refine t_geti (ci := 0) (C := RX0) (T := TX0) (N := 16) hx hb hts iX0 hown hw k_v4 rfl rfl rfl 0 (by decide) (hts _ tw_69) (fun _ h9 => h9) dX11_ahead_7 rfl (fun v7 l_v7 h_v7 f_v4_X0_0 => ?_)
  have l_v7 : 0 ≤ v7.toInt := l_v7
  have h_v7 : v7.toInt ≤ 1 := h_v7
  refine lv_if_eq (tgt := 32) hx hb dX11_ahead_10 (by decide) (fun c_10 => ?_) (fun c_10 => ?_)
  · simp only [fa_lt, fa_le, fa_eq, li_0] at c_10
    refine lv_bipush (v := (-2)) hx hb dX11_ahead_32 (by decide) ?_
    rw [hQ]
    refine W.widen (k := 0) (n := 0) (Nat.le_refl _) (Nat.le_refl _) ?_
    exact W.iret (v := (-2)) hx hb hr (fun t ht hW => ⟨⟨(-2), ws, rfl, ⟨hw.2.2.2.2, hM⟩, by rw [ht]; exact hw.2.1, va_K.moved hW.alike hw.1, hw.2.2.1⟩, hw.2.2.2.1.F ht⟩) hw.2.2.2.1.2.2 dX11_ahead_34
  · simp only [fa_lt, fa_le, fa_eq, li_0] at c_10
    refine lv_iload_n hx hb dX11_ahead_13 rfl (lv_at hl 2 rfl) ?_
    refine lv_if_lt (tgt := 32) hx hb dX11_ahead_14 (by decide) (fun c_14 => ?_) (fun c_14 => ?_)
    · simp only [fa_lt, fa_le, fa_eq, li_0] at c_14
      refine lv_bipush (v := (-2)) hx hb dX11_ahead_32 (by decide) ?_
      rw [hQ]
      refine W.widen (k := 0) (n := 0) (Nat.le_refl _) (Nat.le_refl _) ?_
      exact W.iret (v := (-2)) hx hb hr (fun t ht hW => ⟨⟨(-2), ws, rfl, ⟨hw.2.2.2.2, hM⟩, by rw [ht]; exact hw.2.1, va_K.moved hW.alike hw.1, hw.2.2.1⟩, hw.2.2.2.1.F ht⟩) hw.2.2.2.1.2.2 dX11_ahead_34
    · simp only [fa_lt, fa_le, fa_eq, li_0] at c_14
      refine lv_iload_n hx hb dX11_ahead_17 rfl (lv_at hl 2 rfl) ?_
      refine lv_bipush (v := 60) hx hb dX11_ahead_18 (by decide) ?_
      refine lv_icmp_gt (tgt := 32) hx hb dX11_ahead_20 (by decide) (fun c_20 => ?_) (fun c_20 => ?_)
      · simp only [fa_lt, fa_le, fa_eq, li_60] at c_20
        refine lv_bipush (v := (-2)) hx hb dX11_ahead_32 (by decide) ?_
        rw [hQ]
        refine W.widen (k := 0) (n := 0) (Nat.le_refl _) (Nat.le_refl _) ?_
        exact W.iret (v := (-2)) hx hb hr (fun t ht hW => ⟨⟨(-2), ws, rfl, ⟨hw.2.2.2.2, hM⟩, by rw [ht]; exact hw.2.1, va_K.moved hW.alike hw.1, hw.2.2.1⟩, hw.2.2.2.1.F ht⟩) hw.2.2.2.1.2.2 dX11_ahead_34
      · simp only [fa_lt, fa_le, fa_eq, li_60] at c_20
        refine lv_aload_n hx hb dX11_ahead_23 rfl (lv_at hl 0 rfl) ?_
        refine lv_iload_n hx hb dX11_ahead_24 rfl (lv_at hl 1 rfl) ?_
        refine lv_iload_n hx hb dX11_ahead_25 rfl (lv_at hl 3 rfl) ?_
        refine t_calli (va_runV (As := [.int a1, .int a3]) (rest := []) ⟨hx, hb, hml, hown, hts⟩ (t_X11_canBeAskedAhead l dC dI tys κ B ws hw.2.2.2.2 a0 k_a0 a1 a3 s.heap.size) (cwV 2 hts (gUV tw_894 tw_896 ts_2_0 tw_1 tw_897) rfl rfl rfl (by decide +kernel) ⟨(Nat.le_of_ble_eq_true rfl), (Nat.le_of_ble_eq_true rfl)⟩) ⟨cPre.blind, t_recv hw (ci := 11) k_a0 rfl rfl, cPre.use hw.2.1 hw.1 hw.2.2.1 hE⟩ rfl rfl hl.1 rfl (lv_room (Nat.le_of_ble_eq_true rfl)) dX11_ahead_26 ⟨(Nat.le_of_ble_eq_true rfl), (Nat.le_of_ble_eq_true rfl)⟩) hw hA (fun _ _ h => h.2.2.1) (fun v26 w_1 H locs hp hw => ?_)
        obtain ⟨l_v26, h_v26, _, hm, x_v26_0, x_v26_1⟩ := hp
        have hM := hM.trans hm (by decide) (by decide)
        have f_a0_X11_5 := hm.1 _ _ _ _ f_a0_X11_5 (by decide)
        have f_v1_X10_0 := hm.1 _ _ _ _ f_v1_X10_0 (by decide)
        have f_v4_X0_0 := hm.1 _ _ _ _ f_v4_X0_0 (by decide)
        refine lv_if_ne (tgt := 35) hx hb dX11_ahead_29 (by decide) (fun c_29 => ?_) (fun c_29 => ?_)
        · simp only [fa_lt, fa_le, fa_eq, li_0] at c_29
          refine lv_aload_n hx hb dX11_ahead_35 rfl (lv_at hl 0 rfl) ?_
          refine t_getr (k1 := 8) (ci := 11) (C := RX11) (T := TX11) (N := 12) hx hb hts iX11 hown hw k_a0 rfl rfl rfl 11 (by decide) (hts _ tw_434) (fun _ h9 => h9) dX11_ahead_36 rfl (fun v36 k_v36 f_a0_X11_11 => ?_)
          refine lv_aload_n hx hb dX11_ahead_39 rfl (lv_at hl 0 rfl) ?_
          refine t_getk (ci := 11) (C := RX11) (T := TX11) (N := 12) hx hb hts iX11 hown hw rfl 5 (by decide) (hts _ tw_428) (fun _ h9 => h9) dX11_ahead_40 f_a0_X11_5 ?_
          refine t_getr (k1 := 8) (ci := 10) (C := RX10) (T := TX10) (N := 8) hx hb hts iX10 hown hw k_v1 rfl rfl rfl 1 (by decide) (hts _ tw_285) (fun _ h9 => h9) dX11_ahead_43 rfl (fun v43 k_v43 f_v1_X10_1 => ?_)
          obtain ⟨u_v46q0, q_v46q0, f_v43_X8_1⟩ := t_peek (k := 1) hw.2.2.2.2 k_v43 rfl (by decide)
          obtain ⟨v46q0, rfl, l_v46q0, h_v46q0⟩ := q_v46q0.geti (lo := (-1)) (hi := 5) rfl
          refine t_callv (va_runV (As := [.ref v43]) (rest := []) ⟨hx, hb, hml, hown, hts⟩ (t_X8_copyFrom l dC dI tys κ B w_1 hw.2.2.2.2 v36 k_v36 v43 k_v43 v46q0 (by omega) (by omega) f_v43_X8_1 H.size) (cwV 1 hts (gUV tw_898 tw_752 tw_753 tw_8 tw_754) rfl rfl rfl (by decide +kernel) ⟨(Nat.le_of_ble_eq_true rfl), (Nat.le_of_ble_eq_true rfl)⟩) ⟨cPre.blind, t_recv hw (ci := 8) k_v36 rfl rfl, cPre.use hw.2.1 hw.1 hw.2.2.1 hE⟩ rfl rfl hl.1 rfl (lv_room (Nat.le_of_ble_eq_true rfl)) dX11_ahead_46 ⟨(Nat.le_of_ble_eq_true rfl), (Nat.le_of_ble_eq_true rfl)⟩) hw hA (fun _ h => h.1) (fun w_2 H locs hp hw => ?_)
          obtain ⟨_, hm, f_v43_X8_1⟩ := hp
          have hM := hM.trans hm (by decide) (by decide)
          have f_a0_X11_5 := hm.1 _ _ _ _ f_a0_X11_5 (by decide)
          have f_v1_X10_0 := hm.1 _ _ _ _ f_v1_X10_0 (by decide)
          have f_v4_X0_0 := hm.1 _ _ _ _ f_v4_X0_0 (by decide)
          have f_a0_X11_11 := hm.1 _ _ _ _ f_a0_X11_11 (by decide)
          have f_v1_X10_1 := hm.1 _ _ _ _ f_v1_X10_1 (by decide)
          refine lv_iconst (v := 0) hx hb dX11_ahead_49 (by decide) ?_
          refine lv_istore (lv' := [(4, .int 0), (0, .ref a0), (1, .int a1), (2, .int a2), (3, .int a3)]) hx hb dX11_ahead_50 hl (by decide) rfl (fun ls hl => ?_)
          have J52 : ∀ (n : Nat) (H : Heap) (locs : List Loc) (ls : Array Slot), (∃ (w52 : va_W) (p52_l4 : Int32), tW (dC, dI) tys κ B A s w52 H locs ∧ Sm [(5, 0), (5, 1), (5, 5), (8, 0), (8, 1), (8, 2), (8, 3), (8, 4), (8, 5), (8, 6)] [33, 34, 35, 36, 42, 43, 44, 45, 46, 47, 48] κ ws w52 ∧ 0 ≤ p52_l4.toInt ∧ p52_l4.toInt ≤ 60 ∧ fld w52 a0 11 11 (.ref v36) ∧ fld w52 a0 11 5 (.ref v1) ∧ fld w52 v1 10 0 (.ref v4) ∧ fld w52 v1 10 1 (.ref v43) ∧ fld w52 v4 0 0 (.int v7) ∧ lv_has ls 5 [(0, .ref a0), (1, .int a1), (2, .int a2), (3, .int a3), (4, .int p52_l4)] ∧ (60 - p52_l4.toInt).toNat = n) → W p l e (headSpec (ws_u yX11_ahead cX11_ahead 5 (some .int)) ({ frames := 5, cells := 0, slots := 0, locals := 122 })).room s m ([.ref a0, .int a1, .int a2, .int a3] : List Value).toArray below meth c H locs 0 0 QQ (F0 m 52 ls []) := by
            refine loopT _ ?_
            intro n_52 H locs ls hI ih_52
            obtain ⟨w52, p52_l4, hw, hM, l_p52_l4, h_p52_l4, f_a0_X11_11, f_a0_X11_5, f_v1_X10_0, f_v1_X10_1, f_v4_X0_0, hl, hn_52⟩ := hI
            refine lv_iload hx hb dX11_ahead_52 (lv_at hl 4 rfl) ?_
            refine lv_iload_n hx hb dX11_ahead_54 rfl (lv_at hl 2 rfl) ?_
            refine lv_icmp_ge (tgt := 87) hx hb dX11_ahead_55 (by decide) (fun c_55 => ?_) (fun c_55 => ?_)
            · simp only [fa_lt, fa_le, fa_eq] at c_55
              refine lv_iload_n hx hb dX11_ahead_87 rfl (lv_at hl 3 rfl) ?_
              rcases Classical.em (a3.toInt = 0) with c_88_0 | c_88_0
              · refine lv_lookup (off := 28) (tgt := 116) hx hb dX11_ahead_88 (by decide) (by rw [c_88_0] <;> rfl) (by decide) ?_
                refine lv_aload_n hx hb dX11_ahead_116 rfl (lv_at hl 0 rfl) ?_
                refine t_getk (ci := 11) (C := RX11) (T := TX11) (N := 12) hx hb hts iX11 hown hw rfl 11 (by decide) (hts _ tw_434) (fun _ h9 => h9) dX11_ahead_117 f_a0_X11_11 ?_
                refine t_geti (ci := 8) (C := RX8) (T := TX8) (N := 13) hx hb hts iX8 hown hw k_v36 rfl rfl rfl 1 (by decide) (hts _ tw_226) (fun _ h9 => h9) dX11_ahead_120 rfl (fun v120 l_v120 h_v120 f_v36_X8_1 => ?_)
                have l_v120 : (-1) ≤ v120.toInt := l_v120
                have h_v120 : v120.toInt ≤ 5 := h_v120
                rw [hQ]
                refine W.widen (k := 0) (n := 0) (Nat.le_refl _) (Nat.le_refl _) ?_
                exact W.iret (v := v120) hx hb hr (fun t ht hW => ⟨⟨v120, w52, rfl, ⟨hw.2.2.2.2, hM⟩, by rw [ht]; exact hw.2.1, va_K.moved hW.alike hw.1, hw.2.2.1⟩, hw.2.2.2.1.F ht⟩) hw.2.2.2.1.2.2 dX11_ahead_123
              rcases Classical.em (a3.toInt = 1) with c_88_1 | c_88_1
              · refine lv_lookup (off := 36) (tgt := 124) hx hb dX11_ahead_88 (by decide) (by rw [c_88_1] <;> rfl) (by decide) ?_
                refine lv_aload_n hx hb dX11_ahead_124 rfl (lv_at hl 0 rfl) ?_
                refine t_getk (ci := 11) (C := RX11) (T := TX11) (N := 12) hx hb hts iX11 hown hw rfl 11 (by decide) (hts _ tw_434) (fun _ h9 => h9) dX11_ahead_125 f_a0_X11_11 ?_
                refine t_getr (k1 := 43) (ci := 8) (C := RX8) (T := TX8) (N := 13) hx hb hts iX8 hown hw k_v36 rfl rfl rfl 7 (by decide) (hts _ tw_241) (fun _ h9 => h9) dX11_ahead_128 rfl (fun v128 k_v128 f_v36_X8_7 => ?_)
                refine lv_iload_n hx hb dX11_ahead_131 rfl (lv_at hl 1 rfl) ?_
                refine t_iald hx hb hw k_v128 rfl rfl (by omega) (show a1.toInt < 6 by omega) dX11_ahead_132 (fun v132 r_v132 s_v132 q_v132 => ?_)
                have l_v132 := i32_lo v132
                have h_v132 := i32_hi v132
                rw [hQ]
                refine W.widen (k := 0) (n := 0) (Nat.le_refl _) (Nat.le_refl _) ?_
                exact W.iret (v := v132) hx hb hr (fun t ht hW => ⟨⟨v132, w52, rfl, ⟨hw.2.2.2.2, hM⟩, by rw [ht]; exact hw.2.1, va_K.moved hW.alike hw.1, hw.2.2.1⟩, hw.2.2.2.1.F ht⟩) hw.2.2.2.1.2.2 dX11_ahead_133
              · refine lv_lookup (off := 46) (tgt := 134) hx hb dX11_ahead_88 (by decide) (by simp only [Op.lookupswitch.offset_cons, eq_false (Ne.symm c_88_0), eq_false (Ne.symm c_88_1), if_false] <;> rfl) (by decide) ?_
                refine lv_aload_n hx hb dX11_ahead_134 rfl (lv_at hl 0 rfl) ?_
                refine t_getk (ci := 11) (C := RX11) (T := TX11) (N := 12) hx hb hts iX11 hown hw rfl 11 (by decide) (hts _ tw_434) (fun _ h9 => h9) dX11_ahead_135 f_a0_X11_11 ?_
                refine t_getr (k1 := 48) (ci := 8) (C := RX8) (T := TX8) (N := 13) hx hb hts iX8 hown hw k_v36 rfl rfl rfl 12 (by decide) (hts _ tw_253) (fun _ h9 => h9) dX11_ahead_138 rfl (fun v138 k_v138 f_v36_X8_12 => ?_)
                refine lv_iload_n hx hb dX11_ahead_141 rfl (lv_at hl 1 rfl) ?_
                refine t_iald hx hb hw k_v138 rfl rfl (by omega) (show a1.toInt < 6 by omega) dX11_ahead_142 (fun v142 r_v142 s_v142 q_v142 => ?_)
                have l_v142 := i32_lo v142
                have h_v142 := i32_hi v142
                rw [hQ]
                refine W.widen (k := 0) (n := 0) (Nat.le_refl _) (Nat.le_refl _) ?_
                exact W.iret (v := v142) hx hb hr (fun t ht hW => ⟨⟨v142, w52, rfl, ⟨hw.2.2.2.2, hM⟩, by rw [ht]; exact hw.2.1, va_K.moved hW.alike hw.1, hw.2.2.1⟩, hw.2.2.2.1.F ht⟩) hw.2.2.2.1.2.2 dX11_ahead_143
            · simp only [fa_lt, fa_le, fa_eq] at c_55
              refine lv_aload_n hx hb dX11_ahead_58 rfl (lv_at hl 0 rfl) ?_
              refine t_getr (k1 := 3) (ci := 11) (C := RX11) (T := TX11) (N := 12) hx hb hts iX11 hown hw k_a0 rfl rfl rfl 9 (by decide) (hts _ tw_432) (fun _ h9 => h9) dX11_ahead_59 rfl (fun v59 k_v59 f_a0_X11_9 => ?_)
              refine lv_aload_n hx hb dX11_ahead_62 rfl (lv_at hl 0 rfl) ?_
              refine t_getk (ci := 11) (C := RX11) (T := TX11) (N := 12) hx hb hts iX11 hown hw rfl 5 (by decide) (hts _ tw_428) (fun _ h9 => h9) dX11_ahead_63 f_a0_X11_5 ?_
              refine t_getk (ci := 10) (C := RX10) (T := TX10) (N := 8) hx hb hts iX10 hown hw rfl 0 (by decide) (hts _ tw_282) (fun _ h9 => h9) dX11_ahead_66 f_v1_X10_0 ?_
              refine lv_aload_n hx hb dX11_ahead_69 rfl (lv_at hl 0 rfl) ?_
              refine t_getk (ci := 11) (C := RX11) (T := TX11) (N := 12) hx hb hts iX11 hown hw rfl 11 (by decide) (hts _ tw_434) (fun _ h9 => h9) dX11_ahead_70 f_a0_X11_11 ?_
              refine lv_aload_n hx hb dX11_ahead_73 rfl (lv_at hl 0 rfl) ?_
              refine t_callq (va_runV (As := []) (rest := [.ref v36, .ref v4, .ref v59]) ⟨hx, hb, hml, hown, hts⟩ (t_X11_ruleInForce l dC dI tys κ B w52 hw.2.2.2.2 a0 k_a0 H.size) (cwV 0 hts (gUV tw_756 tw_758 ts_1_3 tw_1 tw_759) rfl rfl rfl (by decide +kernel) ⟨(Nat.le_of_ble_eq_true rfl), (Nat.le_of_ble_eq_true rfl)⟩) ⟨cPre.blind, t_recv hw (ci := 11) k_a0 rfl rfl, cPre.use hw.2.1 hw.1 hw.2.2.1 hE⟩ rfl rfl hl.1 rfl (lv_room (Nat.le_of_ble_eq_true rfl)) dX11_ahead_74 ⟨(Nat.le_of_ble_eq_true rfl), (Nat.le_of_ble_eq_true rfl)⟩) hw hA (fun _ _ h => h.2.1) (fun v74 w_3 H locs hp hw => ?_)
              obtain ⟨k_v74, _, hm⟩ := hp
              have hM := hM.trans hm (by decide) (by decide)
              have f_a0_X11_11 := hm.1 _ _ _ _ f_a0_X11_11 (by decide)
              have f_a0_X11_5 := hm.1 _ _ _ _ f_a0_X11_5 (by decide)
              have f_v1_X10_0 := hm.1 _ _ _ _ f_v1_X10_0 (by decide)
              have f_v1_X10_1 := hm.1 _ _ _ _ f_v1_X10_1 (by decide)
              have f_v4_X0_0 := hm.1 _ _ _ _ f_v4_X0_0 (by decide)
              have f_a0_X11_9 := hm.1 _ _ _ _ f_a0_X11_9 (by decide)
              refine t_calli (va_runV (As := [.ref v4, .ref v36, va_rf v74]) (rest := []) ⟨hx, hb, hml, hown, hts⟩ (t_X3_pass l dC dI tys κ B w_3 hw.2.2.2.2 v59 k_v59 v4 k_v4 v36 k_v36 v74 k_v74 H.size) (cwV 3 hts (gUV tw_760 tw_761 tw_762 tw_11 tw_763) rfl rfl rfl (by decide +kernel) ⟨(Nat.le_of_ble_eq_true rfl), (Nat.le_of_ble_eq_true rfl)⟩) ⟨cPre.blind, t_recv hw (ci := 3) k_v59 rfl rfl, cPre.use hw.2.1 hw.1 hw.2.2.1 hE⟩ rfl rfl hl.1 rfl (lv_room (Nat.le_of_ble_eq_true rfl)) dX11_ahead_77 ⟨(Nat.le_of_ble_eq_true rfl), (Nat.le_of_ble_eq_true rfl)⟩) hw hA (fun _ _ h => h.2.2.1) (fun v77 w_4 H locs hp hw => ?_)
              obtain ⟨l_v77, h_v77, _, hm⟩ := hp
              have hM := hM.trans hm (by decide) (by decide)
              have f_a0_X11_11 := hm.1 _ _ _ _ f_a0_X11_11 (by decide)
              have f_a0_X11_5 := hm.1 _ _ _ _ f_a0_X11_5 (by decide)
              have f_v1_X10_0 := hm.1 _ _ _ _ f_v1_X10_0 (by decide)
              have f_v1_X10_1 := hm.1 _ _ _ _ f_v1_X10_1 (by decide)
              have f_v4_X0_0 := hm.1 _ _ _ _ f_v4_X0_0 (by decide)
              have f_a0_X11_9 := hm.1 _ _ _ _ f_a0_X11_9 (by decide)
              refine lv_pop hx hb dX11_ahead_80 rfl ?_
              obtain ⟨v81, e_v81⟩ : ∃ y : Int32, y = p52_l4 + 1 := ⟨_, rfl⟩
              refine lv_iinc (v := v81) (lv' := [(4, .int v81), (0, .ref a0), (1, .int a1), (2, .int a2), (3, .int a3)]) hx hb dX11_ahead_81 hl (k := 4) rfl e_v81.symm (by decide) rfl (fun ls hl => ?_)
              have e_v81 : v81.toInt = p52_l4.toInt + 1 := ad_i e_v81 rfl li_1 (by omega) (by omega)
              refine lv_goto (tgt := 52) hx hb dX11_ahead_84 (by decide) ?_
              exact ih_52 _ _ _ _ (by omega) ⟨w_4, v81, hw, hM, (by omega), (by omega), f_a0_X11_11, f_a0_X11_5, f_v1_X10_0, f_v1_X10_1, f_v4_X0_0, (lv_sub hl [1, 2, 3, 4, 0] rfl), rfl⟩
          exact J52 _ _ _ _ ⟨w_2, 0, hw, hM, (by decide), (by decide), f_a0_X11_11, f_a0_X11_5, f_v1_X10_0, f_v1_X10_1, f_v4_X0_0, (lv_sub hl [1, 2, 3, 4, 0] rfl), rfl⟩
        · simp only [fa_lt, fa_le, fa_eq, li_0] at c_29
          refine lv_bipush (v := (-2)) hx hb dX11_ahead_32 (by decide) ?_
          rw [hQ]
          refine W.widen (k := 0) (n := 0) (Nat.le_refl _) (Nat.le_refl _) ?_
          exact W.iret (v := (-2)) hx hb hr (fun t ht hW => ⟨⟨(-2), w_1, rfl, ⟨hw.2.2.2.2, hM⟩, by rw [ht]; exact hw.2.1, va_K.moved hW.alike hw.1, hw.2.2.1⟩, hw.2.2.2.1.F ht⟩) hw.2.2.2.1.2.2 dX11_ahead_34
set_option maxHeartbeats 4000000 in
set_option maxRecDepth 100000 in
theorem t_X4_forget (l : Launch) (dC : Nat → ClassId) (dI : Nat → Nat → Nat) (tys : List (ClassId × FieldType)) (κ : tK) (B : Nat) (ws : va_W) (hT : Ty κ tys B ws) (a0 : Nat) (k_a0 : κ a0 = some 4) (sz : Nat) : Met l yX4_forget (ws_u yX4_forget cX4_forget 1 none) ({ frames := 0, cells := 0, slots := 0, locals := 0 }) (va_Pc [.ref a0] (cPre (dC, dI) tys ws sz)) (va_Qv (fun (w : va_W) => Ty κ tys B w ∧ Sm [(4, 2)] [] κ ws w) (fun w t => cPost (dC, dI) tys w (va_A ws sz) t) (va_A ws sz)) 0 0 (va_A ws sz) := by
  refine Met.ofW (cc := cX4_forget) (maxL := 1) (ret := none) (by decide) rfl ?_
  intro p e s m args below meth c s₁ B0 hml hv
  obtain ⟨rfl, hsz, hP, hK, hD0, hE⟩ := hv
  have hx := B0.exec
  have hb := B0.bytes
  have hr := B0.returns
  have hts0 := atoms_spec (ws := ws_u yX4_forget cX4_forget 1 none) B0.pre
  have hts : ∀ w ∈ gT, w.before _ s = true := fun w h => hts0 w (List.mem_cons_of_mem _ h)
  have hown : s.vm.findClass RX4 = some m.cls := findClass_of_methodNamed B0.named
  have hlocks := B0.notSynchronized
  subst hsz
  have hD := hD0.self (sz := s.heap.size)
  generalize hAe : va_A ws s.heap.size = A at hD ⊢
  have hA : ∀ q : Nat, s.heap.size ≤ q → A q := fun q h => by rw [← hAe]; exact Or.inr h
  have hw : tW (dC, dI) tys κ B A s ws s.heap [] := ⟨hK, hP, hD, va_S.rf, hT⟩
  have hM : Sm [(4, 2)] [] κ ws ws := Sm.rf
  clear hP hK hD hD0 hts0
  have hl := lv_entry ([.ref a0]) (n := 1) (Nat.le_of_ble_eq_true rfl)
  rw [lg_entry_eq]
  generalize (lg_sl ([.ref a0]) ++ List.replicate (1 - (lg_sl ([.ref a0])).length) Slot.unset).toArray = ls at hl ⊢
  have hl : lv_has ls 1 [(0, .ref a0)] := hl
  refine t_start (fun QQ hQ => ?_)
  refine lv_aload_n hx hb dX4_forget_0 rfl (lv_at hl 0 rfl) ?_
  refine lv_iconst (v := 0) hx hb dX4_forget_1 (by decide) ?_
  refine t_put (ci := 4) (C := RX4) (T := TX4) (N := 3) (v := .int 0) hx hb hts iX4 tyX4 tyX4_ok nmX4 hown hw k_a0 rfl rfl rfl 2 (by decide) (hts _ tw_329) (fun _ h9 => h9) rfl (tyX4_ok 2 (by decide)) rfl rfl (okV.int rfl (by decide) (by decide)) dX4_forget_2 (fun w_1 H locs hw u => ?_)
  have hM := hM.up1 u (by decide)
  have f_a0_X4_2 := u.2.2
  rw [hQ]
  refine W.widen (k := 0) (n := 0) (Nat.le_refl _) (Nat.le_refl _) ?_
  exact W.vret hx hb hr (fun t ht hW => ⟨⟨w_1, rfl, ⟨hw.2.2.2.2, hM⟩, by rw [ht]; exact hw.2.1, va_K.moved hW.alike hw.1, hw.2.2.1⟩, hw.2.2.2.1.F ht⟩) hw.2.2.2.1.2.2 dX4_forget_5
set_option maxHeartbeats 4000000 in
set_option maxRecDepth 100000 in
theorem t_X11_back (l : Launch) (dC : Nat → ClassId) (dI : Nat → Nat → Nat) (tys : List (ClassId × FieldType)) (κ : tK) (B : Nat) (ws : va_W) (hT : Ty κ tys B ws) (a0 : Nat) (k_a0 : κ a0 = some 11) (a1 : Int32) (sz : Nat) : Met l yX11_back (ws_u yX11_back cX11_back 2 (some .int)) ({ frames := 3, cells := 0, slots := 0, locals := 102 }) (va_Pc [.ref a0, .int a1] (cPre (dC, dI) tys ws sz)) (va_Qi (fun (r : Int32) (w : va_W) => Ty κ tys B w ∧ Sm [(4, 2), (8, 0), (8, 1), (8, 2), (8, 3), (8, 4), (8, 5), (8, 6), (10, 0), (10, 2), (10, 3), (10, 4)] [43, 44, 45, 46, 47, 48, 50, 51] κ ws w) (fun w t => cPost (dC, dI) tys w (va_A ws sz) t) (va_A ws sz)) 0 0 (va_A ws sz) := by
  refine Met.ofW (cc := cX11_back) (maxL := 2) (ret := (some .int)) (by decide) rfl ?_
  intro p e s m args below meth c s₁ B0 hml hv
  obtain ⟨rfl, hsz, hP, hK, hD0, hE⟩ := hv
  have hx := B0.exec
  have hb := B0.bytes
  have hr := B0.returns
  have hts0 := atoms_spec (ws := ws_u yX11_back cX11_back 2 (some .int)) B0.pre
  have hts : ∀ w ∈ gT, w.before _ s = true := fun w h => hts0 w (List.mem_cons_of_mem _ h)
  have hown : s.vm.findClass RX11 = some m.cls := findClass_of_methodNamed B0.named
  have hlocks := B0.notSynchronized
  subst hsz
  have hD := hD0.self (sz := s.heap.size)
  generalize hAe : va_A ws s.heap.size = A at hD ⊢
  have hA : ∀ q : Nat, s.heap.size ≤ q → A q := fun q h => by rw [← hAe]; exact Or.inr h
  have hw : tW (dC, dI) tys κ B A s ws s.heap [] := ⟨hK, hP, hD, va_S.rf, hT⟩
  have hM : Sm [(4, 2), (8, 0), (8, 1), (8, 2), (8, 3), (8, 4), (8, 5), (8, 6), (10, 0), (10, 2), (10, 3), (10, 4)] [43, 44, 45, 46, 47, 48, 50, 51] κ ws ws := Sm.rf
  clear hP hK hD hD0 hts0
  have l_a1 := i32_lo a1
  have h_a1 := i32_hi a1
  have hl := lv_entry ([.ref a0, .int a1]) (n := 2) (Nat.le_of_ble_eq_true rfl)
  rw [lg_entry_eq]
  generalize (lg_sl ([.ref a0, .int a1]) ++ List.replicate (2 - (lg_sl ([.ref a0, .int a1])).length) Slot.unset).toArray = ls at hl ⊢
  have hl : lv_has ls 2 [(0, .ref a0), (1, .int a1)] := hl
  refine t_start (fun QQ hQ => ?_)
  refine lv_iload_n hx hb dX11_back_0 rfl (lv_at hl 1 rfl) ?_
  refine lv_if_lt (tgt := 21) hx hb dX11_back_1 (by decide) (fun c_1 => ?_) (fun c_1 => ?_)
  · simp only [fa_lt, fa_le, fa_eq, li_0] at c_1
    refine lv_iconst (v := (-1)) hx hb dX11_back_21 (by decide) ?_
    rw [hQ]
    refine W.widen (k := 0) (n := 0) (Nat.le_refl _) (Nat.le_refl _) ?_
    exact W.iret (v := (-1)) hx hb hr (fun t ht hW => ⟨⟨(-1), ws, rfl, ⟨hw.2.2.2.2, hM⟩, by rw [ht]; exact hw.2.1, va_K.moved hW.alike hw.1, hw.2.2.1⟩, hw.2.2.2.1.F ht⟩) hw.2.2.2.1.2.2 dX11_back_22
  · simp only [fa_lt, fa_le, fa_eq, li_0] at c_1
    refine lv_iload_n hx hb dX11_back_4 rfl (lv_at hl 1 rfl) ?_
    refine lv_iconst (v := 4) hx hb dX11_back_5 (by decide) ?_
    refine lv_icmp_ge (tgt := 21) hx hb dX11_back_6 (by decide) (fun c_6 => ?_) (fun c_6 => ?_)
    · simp only [fa_lt, fa_le, fa_eq, li_4] at c_6
      refine lv_iconst (v := (-1)) hx hb dX11_back_21 (by decide) ?_
      rw [hQ]
      refine W.widen (k := 0) (n := 0) (Nat.le_refl _) (Nat.le_refl _) ?_
      exact W.iret (v := (-1)) hx hb hr (fun t ht hW => ⟨⟨(-1), ws, rfl, ⟨hw.2.2.2.2, hM⟩, by rw [ht]; exact hw.2.1, va_K.moved hW.alike hw.1, hw.2.2.1⟩, hw.2.2.2.1.F ht⟩) hw.2.2.2.1.2.2 dX11_back_22
    · simp only [fa_lt, fa_le, fa_eq, li_4] at c_6
      refine lv_aload_n hx hb dX11_back_9 rfl (lv_at hl 0 rfl) ?_
      refine t_getr (k1 := 53) (ci := 11) (C := RX11) (T := TX11) (N := 12) hx hb hts iX11 hown hw k_a0 rfl rfl rfl 6 (by decide) (hts _ tw_429) (fun _ h9 => h9) dX11_back_10 rfl (fun v10 k_v10 f_a0_X11_6 => ?_)
      refine lv_iload_n hx hb dX11_back_13 rfl (lv_at hl 1 rfl) ?_
      refine t_aald (C := RX10) hx hb hw k_v10 rfl rfl (by omega) (show a1.toInt < 4 by omega) dX11_back_14 (fun v14 k_v14 => ?_)
      have k_v14 : κ v14 = some 10 := k_v14
      refine t_geti (ci := 10) (C := RX10) (T := TX10) (N := 8) hx hb hts iX10 hown hw k_v14 rfl rfl rfl 7 (by decide) (hts _ tw_299) (fun _ h9 => h9) dX11_back_15 rfl (fun v15 l_v15 h_v15 f_v14_X10_7 => ?_)
      have l_v15 : 0 ≤ v15.toInt := l_v15
      have h_v15 : v15.toInt ≤ 1 := h_v15
      refine lv_if_ne (tgt := 23) hx hb dX11_back_18 (by decide) (fun c_18 => ?_) (fun c_18 => ?_)
      · simp only [fa_lt, fa_le, fa_eq, li_0] at c_18
        refine lv_aload_n hx hb dX11_back_23 rfl (lv_at hl 0 rfl) ?_
        refine t_getr (k1 := 10) (ci := 11) (C := RX11) (T := TX11) (N := 12) hx hb hts iX11 hown hw k_a0 rfl rfl rfl 5 (by decide) (hts _ tw_428) (fun _ h9 => h9) dX11_back_24 rfl (fun v24 k_v24 f_a0_X11_5 => ?_)
        refine lv_aload_n hx hb dX11_back_27 rfl (lv_at hl 0 rfl) ?_
        refine t_getk (ci := 11) (C := RX11) (T := TX11) (N := 12) hx hb hts iX11 hown hw rfl 6 (by decide) (hts _ tw_429) (fun _ h9 => h9) dX11_back_28 f_a0_X11_6 ?_
        refine lv_iload_n hx hb dX11_back_31 rfl (lv_at hl 1 rfl) ?_
        refine t_aald (C := RX10) hx hb hw k_v10 rfl rfl (by omega) (show a1.toInt < 4 by omega) dX11_back_32 (fun v32 k_v32 => ?_)
        have k_v32 : κ v32 = some 10 := k_v32
        refine t_callv (va_runV (As := [.ref v32]) (rest := []) ⟨hx, hb, hml, hown, hts⟩ (t_X10_copyFrom l dC dI tys κ B ws hw.2.2.2.2 v24 k_v24 v32 k_v32 s.heap.size) (cwV 1 hts (gUV tw_1109 tw_1110 tw_1111 tw_7 tw_1112) rfl rfl rfl (by decide +kernel) ⟨(Nat.le_of_ble_eq_true rfl), (Nat.le_of_ble_eq_true rfl)⟩) ⟨cPre.blind, t_recv hw (ci := 10) k_v24 rfl rfl, cPre.use hw.2.1 hw.1 hw.2.2.1 hE⟩ rfl rfl hl.1 rfl (lv_room (Nat.le_of_ble_eq_true rfl)) dX11_back_33 ⟨(Nat.le_of_ble_eq_true rfl), (Nat.le_of_ble_eq_true rfl)⟩) hw hA (fun _ h => h.1) (fun w_1 H locs hp hw => ?_)
        obtain ⟨_, hm⟩ := hp
        have hM := hM.trans hm (by decide) (by decide)
        have f_a0_X11_6 := hm.1 _ _ _ _ f_a0_X11_6 (by decide)
        have f_v14_X10_7 := hm.1 _ _ _ _ f_v14_X10_7 (by decide)
        have f_a0_X11_5 := hm.1 _ _ _ _ f_a0_X11_5 (by decide)
        refine lv_aload_n hx hb dX11_back_36 rfl (lv_at hl 0 rfl) ?_
        refine t_getr (k1 := 4) (ci := 11) (C := RX11) (T := TX11) (N := 12) hx hb hts iX11 hown hw k_a0 rfl rfl rfl 7 (by decide) (hts _ tw_430) (fun _ h9 => h9) dX11_back_37 rfl (fun v37 k_v37 f_a0_X11_7 => ?_)
        refine t_callv (va_runV (As := []) (rest := []) ⟨hx, hb, hml, hown, hts⟩ (t_X4_forget l dC dI tys κ B w_1 hw.2.2.2.2 v37 k_v37 H.size) (cwV 0 hts (gUV tw_625 tw_626 tw_627 tw_9 tw_628) rfl rfl rfl (by decide +kernel) ⟨(Nat.le_of_ble_eq_true rfl), (Nat.le_of_ble_eq_true rfl)⟩) ⟨cPre.blind, t_recv hw (ci := 4) k_v37 rfl rfl, cPre.use hw.2.1 hw.1 hw.2.2.1 hE⟩ rfl rfl hl.1 rfl (lv_room (Nat.le_of_ble_eq_true rfl)) dX11_back_40 ⟨(Nat.le_of_ble_eq_true rfl), (Nat.le_of_ble_eq_true rfl)⟩) hw hA (fun _ h => h.1) (fun w_2 H locs hp hw => ?_)
        obtain ⟨_, hm⟩ := hp
        have hM := hM.trans hm (by decide) (by decide)
        have f_a0_X11_6 := hm.1 _ _ _ _ f_a0_X11_6 (by decide)
        have f_v14_X10_7 := hm.1 _ _ _ _ f_v14_X10_7 (by decide)
        have f_a0_X11_5 := hm.1 _ _ _ _ f_a0_X11_5 (by decide)
        have f_a0_X11_7 := hm.1 _ _ _ _ f_a0_X11_7 (by decide)
        refine lv_aload_n hx hb dX11_back_43 rfl (lv_at hl 0 rfl) ?_
        refine t_getk (ci := 11) (C := RX11) (T := TX11) (N := 12) hx hb hts iX11 hown hw rfl 5 (by decide) (hts _ tw_428) (fun _ h9 => h9) dX11_back_44 f_a0_X11_5 ?_
        refine t_getr (k1 := 8) (ci := 10) (C := RX10) (T := TX10) (N := 8) hx hb hts iX10 hown hw k_v24 rfl rfl rfl 1 (by decide) (hts _ tw_285) (fun _ h9 => h9) dX11_back_47 rfl (fun v47 k_v47 f_v24_X10_1 => ?_)
        refine t_geti (ci := 8) (C := RX8) (T := TX8) (N := 13) hx hb hts iX8 hown hw k_v47 rfl rfl rfl 0 (by decide) (hts _ tw_222) (fun _ h9 => h9) dX11_back_50 rfl (fun v50 l_v50 h_v50 f_v47_X8_0 => ?_)
        have l_v50 : (-2147483648) ≤ v50.toInt := l_v50
        have h_v50 : v50.toInt ≤ 2147483647 := h_v50
        rw [hQ]
        refine W.widen (k := 0) (n := 0) (Nat.le_refl _) (Nat.le_refl _) ?_
        exact W.iret (v := v50) hx hb hr (fun t ht hW => ⟨⟨v50, w_2, rfl, ⟨hw.2.2.2.2, hM⟩, by rw [ht]; exact hw.2.1, va_K.moved hW.alike hw.1, hw.2.2.1⟩, hw.2.2.2.1.F ht⟩) hw.2.2.2.1.2.2 dX11_back_53
      · simp only [fa_lt, fa_le, fa_eq, li_0] at c_18
        refine lv_iconst (v := (-1)) hx hb dX11_back_21 (by decide) ?_
        rw [hQ]
        refine W.widen (k := 0) (n := 0) (Nat.le_refl _) (Nat.le_refl _) ?_
        exact W.iret (v := (-1)) hx hb hr (fun t ht hW => ⟨⟨(-1), ws, rfl, ⟨hw.2.2.2.2, hM⟩, by rw [ht]; exact hw.2.1, va_K.moved hW.alike hw.1, hw.2.2.1⟩, hw.2.2.2.1.F ht⟩) hw.2.2.2.1.2.2 dX11_back_22
