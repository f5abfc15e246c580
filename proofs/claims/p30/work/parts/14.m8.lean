theorem ts_0_0 : Cond.selects "BoyBishop$Tape" ⟨"BoyBishop$Tape", "moveTo", "(I)V"⟩ ⟨"BoyBishop$Tape", "moveTo", "(I)V"⟩ ∈ gT := gT_in (List.mem_append_left _ (List.mem_map.mpr ⟨(⟨"BoyBishop$Tape", "moveTo", "(I)V"⟩, 4), (List.mem_append_left _ (List.mem_of_getElem? (i := 0) rfl)), rfl⟩)) rfl
theorem ts_0_5 : Cond.selects "BoyBishop$ChoirReader" ⟨"BoyBishop$ChoirReader", "readLikes", "(LBoyBishop$Tape;)V"⟩ ⟨"BoyBishop$ChoirReader", "readLikes", "(LBoyBishop$Tape;)V"⟩ ∈ gT := gT_in (List.mem_append_left _ (List.mem_map.mpr ⟨(⟨"BoyBishop$ChoirReader", "readLikes", "(LBoyBishop$Tape;)V"⟩, 1), (List.mem_append_left _ (List.mem_of_getElem? (i := 5) rfl)), rfl⟩)) rfl
theorem ts_0_6 : Cond.selects "BoyBishop$ChoirReader" ⟨"BoyBishop$ChoirReader", "readWay", "(LBoyBishop$Tape;)V"⟩ ⟨"BoyBishop$ChoirReader", "readWay", "(LBoyBishop$Tape;)V"⟩ ∈ gT := gT_in (List.mem_append_left _ (List.mem_map.mpr ⟨(⟨"BoyBishop$ChoirReader", "readWay", "(LBoyBishop$Tape;)V"⟩, 1), (List.mem_append_left _ (List.mem_of_getElem? (i := 6) rfl)), rfl⟩)) rfl
theorem ts_1_0 : Cond.selects "BoyBishop" ⟨"BoyBishop", "isCanon", "(I)Z"⟩ ⟨"BoyBishop", "isCanon", "(I)Z"⟩ ∈ gT := gT_in (List.mem_append_left _ (List.mem_map.mpr ⟨(⟨"BoyBishop", "isCanon", "(I)Z"⟩, 12), (List.mem_append_right _ (List.mem_append_left _ (List.mem_of_getElem? (i := 0) rfl))), rfl⟩)) rfl
theorem tw_103 : (Jvm.Cond.fieldLink "BoyBishop$ChoirReader" (121 : Nat) "BoyBishop$Choir" "likes" "[I") ∈ gT := gT_in (List.mem_append_right _ (List.mem_append_left _ (List.mem_of_getElem? (i := 103) rfl))) rfl
theorem tw_107 : (Jvm.Cond.fieldLink "BoyBishop$ChoirReader" (102 : Nat) "BoyBishop$Choir" "age" "[I") ∈ gT := gT_in (List.mem_append_right _ (List.mem_append_left _ (List.mem_of_getElem? (i := 107) rfl))) rfl
theorem tw_109 : (Jvm.Cond.fieldLink "BoyBishop$ChoirReader" (105 : Nat) "BoyBishop$Choir" "prebend" "[I") ∈ gT := gT_in (List.mem_append_right _ (List.mem_append_left _ (List.mem_of_getElem? (i := 109) rfl))) rfl
theorem tw_110 : (Jvm.Cond.fieldLink "BoyBishop" (164 : Nat) "BoyBishop$Choir" "prebend" "[I") ∈ gT := gT_in (List.mem_append_right _ (List.mem_append_left _ (List.mem_of_getElem? (i := 110) rfl))) rfl
theorem tw_113 : (Jvm.Cond.fieldLink "BoyBishop$ChoirReader" (108 : Nat) "BoyBishop$Choir" "gift" "[I") ∈ gT := gT_in (List.mem_append_right _ (List.mem_append_left _ (List.mem_of_getElem? (i := 113) rfl))) rfl
theorem tw_116 : (Jvm.Cond.fieldLink "BoyBishop$ChoirReader" (111 : Nat) "BoyBishop$Choir" "more" "[I") ∈ gT := gT_in (List.mem_append_right _ (List.mem_append_left _ (List.mem_of_getElem? (i := 116) rfl))) rfl
theorem tw_156 : (Jvm.Cond.fieldLink "BoyBishop$ChoirReader" (12 : Nat) "BoyBishop$ChoirReader" "spare" "LBoyBishop$Choir;") ∈ gT := gT_in (List.mem_append_right _ (List.mem_append_left _ (List.mem_of_getElem? (i := 156) rfl))) rfl
theorem tw_2 : (Jvm.Cond.initialized "BoyBishop$Tape") ∈ gT := gT_in (List.mem_append_right _ (List.mem_append_left _ (List.mem_of_getElem? (i := 2) rfl))) rfl
theorem tw_237 : (Jvm.Cond.fieldLink "BoyBishop" (167 : Nat) "BoyBishop$Standing" "free" "I") ∈ gT := gT_in (List.mem_append_right _ (List.mem_append_left _ (List.mem_of_getElem? (i := 237) rfl))) rfl
theorem tw_251 : (Jvm.Cond.fieldLink "BoyBishop" (170 : Nat) "BoyBishop$Standing" "given" "[I") ∈ gT := gT_in (List.mem_append_right _ (List.mem_append_right _ (List.mem_append_left _ (List.mem_of_getElem? (i := 11) rfl)))) rfl
theorem tw_3 : (Jvm.Cond.initialized "BoyBishop$ChoirReader") ∈ gT := gT_in (List.mem_append_right _ (List.mem_append_left _ (List.mem_of_getElem? (i := 3) rfl))) rfl
theorem tw_36 : (Jvm.Cond.fieldLink "BoyBishop$Tape" (11 : Nat) "BoyBishop$Tape" "bytes" "[B") ∈ gT := gT_in (List.mem_append_right _ (List.mem_append_left _ (List.mem_of_getElem? (i := 36) rfl))) rfl
theorem tw_37 : (Jvm.Cond.fieldLink "BoyBishop$Tape" (15 : Nat) "BoyBishop$Tape" "length" "I") ∈ gT := gT_in (List.mem_append_right _ (List.mem_append_left _ (List.mem_of_getElem? (i := 37) rfl))) rfl
theorem tw_40 : (Jvm.Cond.fieldLink "BoyBishop$ChoirReader" (42 : Nat) "BoyBishop$Tape" "place" "I") ∈ gT := gT_in (List.mem_append_right _ (List.mem_append_left _ (List.mem_of_getElem? (i := 40) rfl))) rfl
theorem tw_41 : (Jvm.Cond.fieldLink "BoyBishop$Tape" (26 : Nat) "BoyBishop$Tape" "place" "I") ∈ gT := gT_in (List.mem_append_right _ (List.mem_append_left _ (List.mem_of_getElem? (i := 41) rfl))) rfl
theorem tw_44 : (Jvm.Cond.fieldLink "BoyBishop$Tape" (19 : Nat) "BoyBishop$Tape" "fault" "I") ∈ gT := gT_in (List.mem_append_right _ (List.mem_append_left _ (List.mem_of_getElem? (i := 44) rfl))) rfl
theorem tw_496 : (Jvm.Cond.methodLink "BoyBishop$Tape" (22 : Nat) ({ cls := "BoyBishop$Tape", name := "moveTo", desc := "(I)V" } : Jvm.MethodName)) ∈ gT := gT_in (List.mem_append_right _ (List.mem_append_right _ (List.mem_append_right _ (List.mem_append_left _ (List.mem_of_getElem? (i := 16) rfl))))) rfl
theorem tw_498 : (Jvm.Cond.instanceMethod ({ cls := "BoyBishop$Tape", name := "moveTo", desc := "(I)V" } : Jvm.MethodName)) ∈ gT := gT_in (List.mem_append_right _ (List.mem_append_right _ (List.mem_append_right _ (List.mem_append_left _ (List.mem_of_getElem? (i := 18) rfl))))) rfl
theorem tw_499 : (Jvm.Cond.code ({ cls := "BoyBishop$Tape", name := "moveTo", desc := "(I)V" } : Jvm.MethodName) prog_11_method_5_code (2 : Nat) (Option.none : Option Jvm.ClassFile.FieldType)) ∈ gT := gT_in (List.mem_append_right _ (List.mem_append_right _ (List.mem_append_right _ (List.mem_append_left _ (List.mem_of_getElem? (i := 19) rfl))))) rfl
theorem tw_561 : (Jvm.Cond.methodLink "BoyBishop$ChoirReader" (45 : Nat) ({ cls := "BoyBishop$Tape", name := "fail", desc := "(II)V" } : Jvm.MethodName)) ∈ gT := gT_in (List.mem_append_right _ (List.mem_append_right _ (List.mem_append_right _ (List.mem_append_left _ (List.mem_of_getElem? (i := 81) rfl))))) rfl
theorem tw_562 : (Jvm.Cond.instanceMethod ({ cls := "BoyBishop$Tape", name := "fail", desc := "(II)V" } : Jvm.MethodName)) ∈ gT := gT_in (List.mem_append_right _ (List.mem_append_right _ (List.mem_append_right _ (List.mem_append_left _ (List.mem_of_getElem? (i := 82) rfl))))) rfl
theorem tw_563 : (Jvm.Cond.selects "BoyBishop$Tape" ({ cls := "BoyBishop$Tape", name := "fail", desc := "(II)V" } : Jvm.MethodName) ({ cls := "BoyBishop$Tape", name := "fail", desc := "(II)V" } : Jvm.MethodName)) ∈ gT := gT_in (List.mem_append_right _ (List.mem_append_right _ (List.mem_append_right _ (List.mem_append_left _ (List.mem_of_getElem? (i := 83) rfl))))) rfl
theorem tw_564 : (Jvm.Cond.code ({ cls := "BoyBishop$Tape", name := "fail", desc := "(II)V" } : Jvm.MethodName) prog_11_method_7_code (3 : Nat) (Option.none : Option Jvm.ClassFile.FieldType)) ∈ gT := gT_in (List.mem_append_right _ (List.mem_append_right _ (List.mem_append_right _ (List.mem_append_left _ (List.mem_of_getElem? (i := 84) rfl))))) rfl
theorem tw_573 : (Jvm.Cond.methodLink "BoyBishop$ChoirReader" (78 : Nat) ({ cls := "BoyBishop$Tape", name := "takeNumber", desc := "(II)I" } : Jvm.MethodName)) ∈ gT := gT_in (List.mem_append_right _ (List.mem_append_right _ (List.mem_append_right _ (List.mem_append_left _ (List.mem_of_getElem? (i := 93) rfl))))) rfl
theorem tw_574 : (Jvm.Cond.instanceMethod ({ cls := "BoyBishop$Tape", name := "takeNumber", desc := "(II)I" } : Jvm.MethodName)) ∈ gT := gT_in (List.mem_append_right _ (List.mem_append_right _ (List.mem_append_right _ (List.mem_append_left _ (List.mem_of_getElem? (i := 94) rfl))))) rfl
theorem tw_575 : (Jvm.Cond.selects "BoyBishop$Tape" ({ cls := "BoyBishop$Tape", name := "takeNumber", desc := "(II)I" } : Jvm.MethodName) ({ cls := "BoyBishop$Tape", name := "takeNumber", desc := "(II)I" } : Jvm.MethodName)) ∈ gT := gT_in (List.mem_append_right _ (List.mem_append_right _ (List.mem_append_right _ (List.mem_append_left _ (List.mem_of_getElem? (i := 95) rfl))))) rfl
theorem tw_576 : (Jvm.Cond.code ({ cls := "BoyBishop$Tape", name := "takeNumber", desc := "(II)I" } : Jvm.MethodName) prog_11_method_14_code (6 : Nat) (Option.some Jvm.ClassFile.FieldType.int)) ∈ gT := gT_in (List.mem_append_right _ (List.mem_append_right _ (List.mem_append_right _ (List.mem_append_left _ (List.mem_of_getElem? (i := 96) rfl))))) rfl
theorem tw_577 : (Jvm.Cond.methodLink "BoyBishop$Tape" (46 : Nat) ({ cls := "BoyBishop$Tape", name := "isDigitAt", desc := "(I)Z" } : Jvm.MethodName)) ∈ gT := gT_in (List.mem_append_right _ (List.mem_append_right _ (List.mem_append_right _ (List.mem_append_left _ (List.mem_of_getElem? (i := 97) rfl))))) rfl
theorem tw_578 : (Jvm.Cond.instanceMethod ({ cls := "BoyBishop$Tape", name := "isDigitAt", desc := "(I)Z" } : Jvm.MethodName)) ∈ gT := gT_in (List.mem_append_right _ (List.mem_append_right _ (List.mem_append_right _ (List.mem_append_left _ (List.mem_of_getElem? (i := 98) rfl))))) rfl
theorem tw_579 : (Jvm.Cond.selects "BoyBishop$Tape" ({ cls := "BoyBishop$Tape", name := "isDigitAt", desc := "(I)Z" } : Jvm.MethodName) ({ cls := "BoyBishop$Tape", name := "isDigitAt", desc := "(I)Z" } : Jvm.MethodName)) ∈ gT := gT_in (List.mem_append_right _ (List.mem_append_right _ (List.mem_append_right _ (List.mem_append_left _ (List.mem_of_getElem? (i := 99) rfl))))) rfl
theorem tw_580 : (Jvm.Cond.code ({ cls := "BoyBishop$Tape", name := "isDigitAt", desc := "(I)Z" } : Jvm.MethodName) prog_11_method_11_code (2 : Nat) (Option.some Jvm.ClassFile.FieldType.boolean)) ∈ gT := gT_in (List.mem_append_right _ (List.mem_append_right _ (List.mem_append_right _ (List.mem_append_left _ (List.mem_of_getElem? (i := 100) rfl))))) rfl
theorem tw_581 : (Jvm.Cond.methodLink "BoyBishop$Tape" (50 : Nat) ({ cls := "BoyBishop$Tape", name := "fail", desc := "(II)V" } : Jvm.MethodName)) ∈ gT := gT_in (List.mem_append_right _ (List.mem_append_right _ (List.mem_append_right _ (List.mem_append_left _ (List.mem_of_getElem? (i := 101) rfl))))) rfl
theorem tw_582 : (Jvm.Cond.methodLink "BoyBishop$ChoirReader" (98 : Nat) ({ cls := "BoyBishop$ChoirReader", name := "readLikes", desc := "(LBoyBishop$Tape;)V" } : Jvm.MethodName)) ∈ gT := gT_in (List.mem_append_right _ (List.mem_append_right _ (List.mem_append_right _ (List.mem_append_left _ (List.mem_of_getElem? (i := 102) rfl))))) rfl
theorem tw_584 : (Jvm.Cond.instanceMethod ({ cls := "BoyBishop$ChoirReader", name := "readLikes", desc := "(LBoyBishop$Tape;)V" } : Jvm.MethodName)) ∈ gT := gT_in (List.mem_append_right _ (List.mem_append_right _ (List.mem_append_right _ (List.mem_append_left _ (List.mem_of_getElem? (i := 104) rfl))))) rfl
theorem tw_585 : (Jvm.Cond.code ({ cls := "BoyBishop$ChoirReader", name := "readLikes", desc := "(LBoyBishop$Tape;)V" } : Jvm.MethodName) prog_3_method_6_code (4 : Nat) (Option.none : Option Jvm.ClassFile.FieldType)) ∈ gT := gT_in (List.mem_append_right _ (List.mem_append_right _ (List.mem_append_right _ (List.mem_append_left _ (List.mem_of_getElem? (i := 105) rfl))))) rfl
theorem tw_586 : (Jvm.Cond.methodLink "BoyBishop$ChoirReader" (114 : Nat) ({ cls := "BoyBishop$ChoirReader", name := "readWay", desc := "(LBoyBishop$Tape;)V" } : Jvm.MethodName)) ∈ gT := gT_in (List.mem_append_right _ (List.mem_append_right _ (List.mem_append_right _ (List.mem_append_left _ (List.mem_of_getElem? (i := 106) rfl))))) rfl
theorem tw_588 : (Jvm.Cond.instanceMethod ({ cls := "BoyBishop$ChoirReader", name := "readWay", desc := "(LBoyBishop$Tape;)V" } : Jvm.MethodName)) ∈ gT := gT_in (List.mem_append_right _ (List.mem_append_right _ (List.mem_append_right _ (List.mem_append_left _ (List.mem_of_getElem? (i := 108) rfl))))) rfl
theorem tw_589 : (Jvm.Cond.code ({ cls := "BoyBishop$ChoirReader", name := "readWay", desc := "(LBoyBishop$Tape;)V" } : Jvm.MethodName) prog_3_method_7_code (5 : Nat) (Option.none : Option Jvm.ClassFile.FieldType)) ∈ gT := gT_in (List.mem_append_right _ (List.mem_append_right _ (List.mem_append_right _ (List.mem_append_left _ (List.mem_of_getElem? (i := 109) rfl))))) rfl
theorem tw_590 : (Jvm.Cond.methodLink "BoyBishop$ChoirReader" (124 : Nat) ({ cls := "BoyBishop$Choir", name := "setWay", desc := "(III)V" } : Jvm.MethodName)) ∈ gT := gT_in (List.mem_append_right _ (List.mem_append_right _ (List.mem_append_right _ (List.mem_append_left _ (List.mem_of_getElem? (i := 110) rfl))))) rfl
theorem tw_591 : (Jvm.Cond.instanceMethod ({ cls := "BoyBishop$Choir", name := "setWay", desc := "(III)V" } : Jvm.MethodName)) ∈ gT := gT_in (List.mem_append_right _ (List.mem_append_right _ (List.mem_append_right _ (List.mem_append_left _ (List.mem_of_getElem? (i := 111) rfl))))) rfl
theorem tw_592 : (Jvm.Cond.selects "BoyBishop$Choir" ({ cls := "BoyBishop$Choir", name := "setWay", desc := "(III)V" } : Jvm.MethodName) ({ cls := "BoyBishop$Choir", name := "setWay", desc := "(III)V" } : Jvm.MethodName)) ∈ gT := gT_in (List.mem_append_right _ (List.mem_append_right _ (List.mem_append_right _ (List.mem_append_left _ (List.mem_of_getElem? (i := 112) rfl))))) rfl
theorem tw_593 : (Jvm.Cond.code ({ cls := "BoyBishop$Choir", name := "setWay", desc := "(III)V" } : Jvm.MethodName) prog_2_method_3_code (4 : Nat) (Option.none : Option Jvm.ClassFile.FieldType)) ∈ gT := gT_in (List.mem_append_right _ (List.mem_append_right _ (List.mem_append_right _ (List.mem_append_left _ (List.mem_of_getElem? (i := 113) rfl))))) rfl
theorem tw_594 : (Jvm.Cond.methodLink "BoyBishop$ChoirReader" (117 : Nat) ({ cls := "BoyBishop$Choir", name := "setSnow", desc := "(I)V" } : Jvm.MethodName)) ∈ gT := gT_in (List.mem_append_right _ (List.mem_append_right _ (List.mem_append_right _ (List.mem_append_left _ (List.mem_of_getElem? (i := 114) rfl))))) rfl
theorem tw_595 : (Jvm.Cond.instanceMethod ({ cls := "BoyBishop$Choir", name := "setSnow", desc := "(I)V" } : Jvm.MethodName)) ∈ gT := gT_in (List.mem_append_right _ (List.mem_append_right _ (List.mem_append_right _ (List.mem_append_left _ (List.mem_of_getElem? (i := 115) rfl))))) rfl
theorem tw_596 : (Jvm.Cond.selects "BoyBishop$Choir" ({ cls := "BoyBishop$Choir", name := "setSnow", desc := "(I)V" } : Jvm.MethodName) ({ cls := "BoyBishop$Choir", name := "setSnow", desc := "(I)V" } : Jvm.MethodName)) ∈ gT := gT_in (List.mem_append_right _ (List.mem_append_right _ (List.mem_append_right _ (List.mem_append_left _ (List.mem_of_getElem? (i := 116) rfl))))) rfl
theorem tw_597 : (Jvm.Cond.code ({ cls := "BoyBishop$Choir", name := "setSnow", desc := "(I)V" } : Jvm.MethodName) prog_2_method_4_code (2 : Nat) (Option.none : Option Jvm.ClassFile.FieldType)) ∈ gT := gT_in (List.mem_append_right _ (List.mem_append_right _ (List.mem_append_right _ (List.mem_append_left _ (List.mem_of_getElem? (i := 117) rfl))))) rfl
theorem tw_70 : (Jvm.Cond.fieldLink "BoyBishop$ChoirReader" (82 : Nat) "BoyBishop$Choir" "reign" "I") ∈ gT := gT_in (List.mem_append_right _ (List.mem_append_left _ (List.mem_of_getElem? (i := 70) rfl))) rfl
theorem tw_722 : (Jvm.Cond.methodLink "BoyBishop" (158 : Nat) ({ cls := "BoyBishop", name := "isCanon", desc := "(I)Z" } : Jvm.MethodName)) ∈ gT := gT_in (List.mem_append_right _ (List.mem_append_right _ (List.mem_append_right _ (List.mem_append_right _ (List.mem_append_left _ (List.mem_of_getElem? (i := 2) rfl)))))) rfl
theorem tw_724 : (Jvm.Cond.instanceMethod ({ cls := "BoyBishop", name := "isCanon", desc := "(I)Z" } : Jvm.MethodName)) ∈ gT := gT_in (List.mem_append_right _ (List.mem_append_right _ (List.mem_append_right _ (List.mem_append_right _ (List.mem_append_left _ (List.mem_of_getElem? (i := 4) rfl)))))) rfl
theorem tw_725 : (Jvm.Cond.code ({ cls := "BoyBishop", name := "isCanon", desc := "(I)Z" } : Jvm.MethodName) prog_1_method_43_code (2 : Nat) (Option.some Jvm.ClassFile.FieldType.boolean)) ∈ gT := gT_in (List.mem_append_right _ (List.mem_append_right _ (List.mem_append_right _ (List.mem_append_right _ (List.mem_append_left _ (List.mem_of_getElem? (i := 5) rfl)))))) rfl
theorem tw_73 : (Jvm.Cond.fieldLink "BoyBishop$ChoirReader" (85 : Nat) "BoyBishop$Choir" "hours" "I") ∈ gT := gT_in (List.mem_append_right _ (List.mem_append_left _ (List.mem_of_getElem? (i := 73) rfl))) rfl
theorem tw_79 : (Jvm.Cond.fieldLink "BoyBishop$ChoirReader" (69 : Nat) "BoyBishop$Choir" "boys" "I") ∈ gT := gT_in (List.mem_append_right _ (List.mem_append_left _ (List.mem_of_getElem? (i := 79) rfl))) rfl
theorem tw_83 : (Jvm.Cond.fieldLink "BoyBishop$ChoirReader" (72 : Nat) "BoyBishop$Choir" "canons" "I") ∈ gT := gT_in (List.mem_append_right _ (List.mem_append_left _ (List.mem_of_getElem? (i := 83) rfl))) rfl
theorem tw_87 : (Jvm.Cond.fieldLink "BoyBishop$ChoirReader" (75 : Nat) "BoyBishop$Choir" "farms" "I") ∈ gT := gT_in (List.mem_append_right _ (List.mem_append_left _ (List.mem_of_getElem? (i := 87) rfl))) rfl
theorem tw_92 : (Jvm.Cond.fieldLink "BoyBishop$ChoirReader" (88 : Nat) "BoyBishop$Choir" "voice" "[I") ∈ gT := gT_in (List.mem_append_right _ (List.mem_append_left _ (List.mem_of_getElem? (i := 92) rfl))) rfl
theorem tw_95 : (Jvm.Cond.fieldLink "BoyBishop$ChoirReader" (92 : Nat) "BoyBishop$Choir" "share" "[I") ∈ gT := gT_in (List.mem_append_right _ (List.mem_append_left _ (List.mem_of_getElem? (i := 95) rfl))) rfl
theorem tw_98 : (Jvm.Cond.fieldLink "BoyBishop$ChoirReader" (95 : Nat) "BoyBishop$Choir" "fade" "[I") ∈ gT := gT_in (List.mem_append_right _ (List.mem_append_left _ (List.mem_of_getElem? (i := 98) rfl))) rfl
theorem dX11_canon_0 : decode cX11_canon 0 = .ok (.aload_n 0, 1) := by decide +kernel
theorem dX11_canon_1 : decode cX11_canon 1 = .ok (.iload_n 1, 1) := by decide +kernel
theorem dX11_canon_2 : decode cX11_canon 2 = .ok (.invokevirtual 158, 3) := by decide +kernel
theorem dX11_canon_5 : decode cX11_canon 5 = .ok (.ifCond .ne 6, 3) := by decide +kernel
theorem dX11_canon_8 : decode cX11_canon 8 = .ok (.bipush (-2), 2) := by decide +kernel
theorem dX11_canon_10 : decode cX11_canon 10 = .ok (.ireturn, 1) := by decide +kernel
theorem dX11_canon_11 : decode cX11_canon 11 = .ok (.iload_n 2, 1) := by decide +kernel
theorem dX11_canon_12 : decode cX11_canon 12 = .ok (.tableswitch 86 0 3 #[32, 45, 58, 73], 32) := by decide +kernel
theorem dX11_canon_44 : decode cX11_canon 44 = .ok (.aload_n 0, 1) := by decide +kernel
theorem dX11_canon_45 : decode cX11_canon 45 = .ok (.getfield 45, 3) := by decide +kernel
theorem dX11_canon_48 : decode cX11_canon 48 = .ok (.getfield 115, 3) := by decide +kernel
theorem dX11_canon_51 : decode cX11_canon 51 = .ok (.getfield 161, 3) := by decide +kernel
theorem dX11_canon_54 : decode cX11_canon 54 = .ok (.iload_n 1, 1) := by decide +kernel
theorem dX11_canon_55 : decode cX11_canon 55 = .ok (.iaload, 1) := by decide +kernel
theorem dX11_canon_56 : decode cX11_canon 56 = .ok (.ireturn, 1) := by decide +kernel
theorem dX11_canon_57 : decode cX11_canon 57 = .ok (.aload_n 0, 1) := by decide +kernel
theorem dX11_canon_58 : decode cX11_canon 58 = .ok (.getfield 45, 3) := by decide +kernel
theorem dX11_canon_61 : decode cX11_canon 61 = .ok (.getfield 53, 3) := by decide +kernel
theorem dX11_canon_64 : decode cX11_canon 64 = .ok (.getfield 164, 3) := by decide +kernel
theorem dX11_canon_67 : decode cX11_canon 67 = .ok (.iload_n 1, 1) := by decide +kernel
theorem dX11_canon_68 : decode cX11_canon 68 = .ok (.iaload, 1) := by decide +kernel
theorem dX11_canon_69 : decode cX11_canon 69 = .ok (.ireturn, 1) := by decide +kernel
theorem dX11_canon_70 : decode cX11_canon 70 = .ok (.aload_n 0, 1) := by decide +kernel
theorem dX11_canon_71 : decode cX11_canon 71 = .ok (.getfield 45, 3) := by decide +kernel
theorem dX11_canon_74 : decode cX11_canon 74 = .ok (.getfield 115, 3) := by decide +kernel
theorem dX11_canon_77 : decode cX11_canon 77 = .ok (.getfield 167, 3) := by decide +kernel
theorem dX11_canon_80 : decode cX11_canon 80 = .ok (.iload_n 1, 1) := by decide +kernel
theorem dX11_canon_81 : decode cX11_canon 81 = .ok (.ishr, 1) := by decide +kernel
theorem dX11_canon_82 : decode cX11_canon 82 = .ok (.iconst 1, 1) := by decide +kernel
theorem dX11_canon_83 : decode cX11_canon 83 = .ok (.iand, 1) := by decide +kernel
theorem dX11_canon_84 : decode cX11_canon 84 = .ok (.ireturn, 1) := by decide +kernel
theorem dX11_canon_85 : decode cX11_canon 85 = .ok (.aload_n 0, 1) := by decide +kernel
theorem dX11_canon_86 : decode cX11_canon 86 = .ok (.getfield 45, 3) := by decide +kernel
theorem dX11_canon_89 : decode cX11_canon 89 = .ok (.getfield 115, 3) := by decide +kernel
theorem dX11_canon_92 : decode cX11_canon 92 = .ok (.getfield 170, 3) := by decide +kernel
theorem dX11_canon_95 : decode cX11_canon 95 = .ok (.iload_n 1, 1) := by decide +kernel
theorem dX11_canon_96 : decode cX11_canon 96 = .ok (.iaload, 1) := by decide +kernel
theorem dX11_canon_97 : decode cX11_canon 97 = .ok (.ireturn, 1) := by decide +kernel
theorem dX11_canon_98 : decode cX11_canon 98 = .ok (.bipush (-2), 2) := by decide +kernel
theorem dX11_canon_100 : decode cX11_canon 100 = .ok (.ireturn, 1) := by decide +kernel
theorem dX11_isCanon_0 : decode cX11_isCanon 0 = .ok (.iload_n 1, 1) := by decide +kernel
theorem dX11_isCanon_1 : decode cX11_isCanon 1 = .ok (.ifCond .lt 21, 3) := by decide +kernel
theorem dX11_isCanon_4 : decode cX11_isCanon 4 = .ok (.iload_n 1, 1) := by decide +kernel
theorem dX11_isCanon_5 : decode cX11_isCanon 5 = .ok (.aload_n 0, 1) := by decide +kernel
theorem dX11_isCanon_6 : decode cX11_isCanon 6 = .ok (.getfield 45, 3) := by decide +kernel
theorem dX11_isCanon_9 : decode cX11_isCanon 9 = .ok (.getfield 53, 3) := by decide +kernel
theorem dX11_isCanon_12 : decode cX11_isCanon 12 = .ok (.getfield 311, 3) := by decide +kernel
theorem dX11_isCanon_15 : decode cX11_isCanon 15 = .ok (.if_icmp .ge 7, 3) := by decide +kernel
theorem dX11_isCanon_18 : decode cX11_isCanon 18 = .ok (.iconst 1, 1) := by decide +kernel
theorem dX11_isCanon_19 : decode cX11_isCanon 19 = .ok (.goto 4, 3) := by decide +kernel
theorem dX11_isCanon_22 : decode cX11_isCanon 22 = .ok (.iconst 0, 1) := by decide +kernel
theorem dX11_isCanon_23 : decode cX11_isCanon 23 = .ok (.ireturn, 1) := by decide +kernel
theorem dX1_isFull_0 : decode cX1_isFull 0 = .ok (.iload_n 1, 1) := by decide +kernel
theorem dX1_isFull_1 : decode cX1_isFull 1 = .ok (.tableswitch 84 1 4 #[31, 84, 49, 66], 31) := by decide +kernel
theorem dX1_isFull_32 : decode cX1_isFull 32 = .ok (.aload_n 0, 1) := by decide +kernel
theorem dX1_isFull_33 : decode cX1_isFull 33 = .ok (.getfield 12, 3) := by decide +kernel
theorem dX1_isFull_36 : decode cX1_isFull 36 = .ok (.getfield 69, 3) := by decide +kernel
theorem dX1_isFull_39 : decode cX1_isFull 39 = .ok (.bipush 6, 2) := by decide +kernel
theorem dX1_isFull_41 : decode cX1_isFull 41 = .ok (.if_icmp .lt 7, 3) := by decide +kernel
theorem dX1_isFull_44 : decode cX1_isFull 44 = .ok (.iconst 1, 1) := by decide +kernel
theorem dX1_isFull_45 : decode cX1_isFull 45 = .ok (.goto 4, 3) := by decide +kernel
theorem dX1_isFull_48 : decode cX1_isFull 48 = .ok (.iconst 0, 1) := by decide +kernel
theorem dX1_isFull_49 : decode cX1_isFull 49 = .ok (.ireturn, 1) := by decide +kernel
theorem dX1_isFull_50 : decode cX1_isFull 50 = .ok (.aload_n 0, 1) := by decide +kernel
theorem dX1_isFull_51 : decode cX1_isFull 51 = .ok (.getfield 12, 3) := by decide +kernel
theorem dX1_isFull_54 : decode cX1_isFull 54 = .ok (.getfield 72, 3) := by decide +kernel
theorem dX1_isFull_57 : decode cX1_isFull 57 = .ok (.iconst 4, 1) := by decide +kernel
theorem dX1_isFull_58 : decode cX1_isFull 58 = .ok (.if_icmp .lt 7, 3) := by decide +kernel
theorem dX1_isFull_61 : decode cX1_isFull 61 = .ok (.iconst 1, 1) := by decide +kernel
theorem dX1_isFull_62 : decode cX1_isFull 62 = .ok (.goto 4, 3) := by decide +kernel
theorem dX1_isFull_65 : decode cX1_isFull 65 = .ok (.iconst 0, 1) := by decide +kernel
theorem dX1_isFull_66 : decode cX1_isFull 66 = .ok (.ireturn, 1) := by decide +kernel
theorem dX1_isFull_67 : decode cX1_isFull 67 = .ok (.aload_n 0, 1) := by decide +kernel
theorem dX1_isFull_68 : decode cX1_isFull 68 = .ok (.getfield 12, 3) := by decide +kernel
theorem dX1_isFull_71 : decode cX1_isFull 71 = .ok (.getfield 75, 3) := by decide +kernel
theorem dX1_isFull_74 : decode cX1_isFull 74 = .ok (.bipush 6, 2) := by decide +kernel
theorem dX1_isFull_76 : decode cX1_isFull 76 = .ok (.if_icmp .lt 7, 3) := by decide +kernel
theorem dX1_isFull_79 : decode cX1_isFull 79 = .ok (.iconst 1, 1) := by decide +kernel
theorem dX1_isFull_80 : decode cX1_isFull 80 = .ok (.goto 4, 3) := by decide +kernel
theorem dX1_isFull_83 : decode cX1_isFull 83 = .ok (.iconst 0, 1) := by decide +kernel
theorem dX1_isFull_84 : decode cX1_isFull 84 = .ok (.ireturn, 1) := by decide +kernel
theorem dX1_isFull_85 : decode cX1_isFull 85 = .ok (.iconst 0, 1) := by decide +kernel
theorem dX1_isFull_86 : decode cX1_isFull 86 = .ok (.ireturn, 1) := by decide +kernel
theorem dX1_readLikes_0 : decode cX1_readLikes 0 = .ok (.aload_n 1, 1) := by decide +kernel
theorem dX1_readLikes_1 : decode cX1_readLikes 1 = .ok (.iconst 0, 1) := by decide +kernel
theorem dX1_readLikes_2 : decode cX1_readLikes 2 = .ok (.aload_n 0, 1) := by decide +kernel
theorem dX1_readLikes_3 : decode cX1_readLikes 3 = .ok (.getfield 12, 3) := by decide +kernel
theorem dX1_readLikes_6 : decode cX1_readLikes 6 = .ok (.getfield 69, 3) := by decide +kernel
theorem dX1_readLikes_9 : decode cX1_readLikes 9 = .ok (.iconst 1, 1) := by decide +kernel
theorem dX1_readLikes_10 : decode cX1_readLikes 10 = .ok (.isub, 1) := by decide +kernel
theorem dX1_readLikes_11 : decode cX1_readLikes 11 = .ok (.invokevirtual 78, 3) := by decide +kernel
theorem dX1_readLikes_14 : decode cX1_readLikes 14 = .ok (.istore_n 2, 1) := by decide +kernel
theorem dX1_readLikes_15 : decode cX1_readLikes 15 = .ok (.aload_n 1, 1) := by decide +kernel
theorem dX1_readLikes_16 : decode cX1_readLikes 16 = .ok (.iconst 0, 1) := by decide +kernel
theorem dX1_readLikes_17 : decode cX1_readLikes 17 = .ok (.aload_n 0, 1) := by decide +kernel
theorem dX1_readLikes_18 : decode cX1_readLikes 18 = .ok (.getfield 12, 3) := by decide +kernel
theorem dX1_readLikes_21 : decode cX1_readLikes 21 = .ok (.getfield 69, 3) := by decide +kernel
theorem dX1_readLikes_24 : decode cX1_readLikes 24 = .ok (.iconst 1, 1) := by decide +kernel
theorem dX1_readLikes_25 : decode cX1_readLikes 25 = .ok (.isub, 1) := by decide +kernel
theorem dX1_readLikes_26 : decode cX1_readLikes 26 = .ok (.invokevirtual 78, 3) := by decide +kernel
theorem dX1_readLikes_29 : decode cX1_readLikes 29 = .ok (.istore_n 3, 1) := by decide +kernel
theorem dX1_readLikes_30 : decode cX1_readLikes 30 = .ok (.aload_n 0, 1) := by decide +kernel
theorem dX1_readLikes_31 : decode cX1_readLikes 31 = .ok (.getfield 12, 3) := by decide +kernel
theorem dX1_readLikes_34 : decode cX1_readLikes 34 = .ok (.getfield 121, 3) := by decide +kernel
theorem dX1_readLikes_37 : decode cX1_readLikes 37 = .ok (.iload_n 2, 1) := by decide +kernel
theorem dX1_readLikes_38 : decode cX1_readLikes 38 = .ok (.bipush 6, 2) := by decide +kernel
theorem dX1_readLikes_40 : decode cX1_readLikes 40 = .ok (.imul, 1) := by decide +kernel
theorem dX1_readLikes_41 : decode cX1_readLikes 41 = .ok (.iload_n 3, 1) := by decide +kernel
theorem dX1_readLikes_42 : decode cX1_readLikes 42 = .ok (.iadd, 1) := by decide +kernel
theorem dX1_readLikes_43 : decode cX1_readLikes 43 = .ok (.aload_n 1, 1) := by decide +kernel
theorem dX1_readLikes_44 : decode cX1_readLikes 44 = .ok (.iconst 0, 1) := by decide +kernel
theorem dX1_readLikes_45 : decode cX1_readLikes 45 = .ok (.bipush 20, 2) := by decide +kernel
theorem dX1_readLikes_47 : decode cX1_readLikes 47 = .ok (.invokevirtual 78, 3) := by decide +kernel
theorem dX1_readLikes_50 : decode cX1_readLikes 50 = .ok (.iastore, 1) := by decide +kernel
theorem dX1_readLikes_51 : decode cX1_readLikes 51 = .ok (.return_, 1) := by decide +kernel
theorem dX1_readNumbers_0 : decode cX1_readNumbers 0 = .ok (.iload_n 2, 1) := by decide +kernel
theorem dX1_readNumbers_1 : decode cX1_readNumbers 1 = .ok (.tableswitch 289 0 5 #[39, 70, 152, 160, 221, 281], 39) := by decide +kernel
theorem dX1_readNumbers_40 : decode cX1_readNumbers 40 = .ok (.aload_n 0, 1) := by decide +kernel
theorem dX1_readNumbers_41 : decode cX1_readNumbers 41 = .ok (.getfield 12, 3) := by decide +kernel
theorem dX1_readNumbers_44 : decode cX1_readNumbers 44 = .ok (.aload_n 1, 1) := by decide +kernel
theorem dX1_readNumbers_45 : decode cX1_readNumbers 45 = .ok (.iconst 1, 1) := by decide +kernel
theorem dX1_readNumbers_46 : decode cX1_readNumbers 46 = .ok (.bipush 40, 2) := by decide +kernel
theorem dX1_readNumbers_48 : decode cX1_readNumbers 48 = .ok (.invokevirtual 78, 3) := by decide +kernel
theorem dX1_readNumbers_51 : decode cX1_readNumbers 51 = .ok (.putfield 82, 3) := by decide +kernel
theorem dX1_readNumbers_54 : decode cX1_readNumbers 54 = .ok (.aload_n 0, 1) := by decide +kernel
theorem dX1_readNumbers_55 : decode cX1_readNumbers 55 = .ok (.getfield 12, 3) := by decide +kernel
theorem dX1_readNumbers_58 : decode cX1_readNumbers 58 = .ok (.aload_n 1, 1) := by decide +kernel
theorem dX1_readNumbers_59 : decode cX1_readNumbers 59 = .ok (.iconst 0, 1) := by decide +kernel
theorem dX1_readNumbers_60 : decode cX1_readNumbers 60 = .ok (.bipush 24, 2) := by decide +kernel
theorem dX1_readNumbers_62 : decode cX1_readNumbers 62 = .ok (.invokevirtual 78, 3) := by decide +kernel
theorem dX1_readNumbers_65 : decode cX1_readNumbers 65 = .ok (.putfield 85, 3) := by decide +kernel
theorem dX1_readNumbers_68 : decode cX1_readNumbers 68 = .ok (.goto 236, 3) := by decide +kernel
theorem dX1_readNumbers_71 : decode cX1_readNumbers 71 = .ok (.aload_n 0, 1) := by decide +kernel
theorem dX1_readNumbers_72 : decode cX1_readNumbers 72 = .ok (.getfield 12, 3) := by decide +kernel
theorem dX1_readNumbers_75 : decode cX1_readNumbers 75 = .ok (.getfield 88, 3) := by decide +kernel
theorem dX1_readNumbers_78 : decode cX1_readNumbers 78 = .ok (.aload_n 0, 1) := by decide +kernel
theorem dX1_readNumbers_79 : decode cX1_readNumbers 79 = .ok (.getfield 12, 3) := by decide +kernel
theorem dX1_readNumbers_82 : decode cX1_readNumbers 82 = .ok (.getfield 69, 3) := by decide +kernel
theorem dX1_readNumbers_85 : decode cX1_readNumbers 85 = .ok (.aload_n 1, 1) := by decide +kernel
theorem dX1_readNumbers_86 : decode cX1_readNumbers 86 = .ok (.iconst 1, 1) := by decide +kernel
theorem dX1_readNumbers_87 : decode cX1_readNumbers 87 = .ok (.bipush 99, 2) := by decide +kernel
theorem dX1_readNumbers_89 : decode cX1_readNumbers 89 = .ok (.invokevirtual 78, 3) := by decide +kernel
theorem dX1_readNumbers_92 : decode cX1_readNumbers 92 = .ok (.iastore, 1) := by decide +kernel
theorem dX1_readNumbers_93 : decode cX1_readNumbers 93 = .ok (.aload_n 0, 1) := by decide +kernel
theorem dX1_readNumbers_94 : decode cX1_readNumbers 94 = .ok (.getfield 12, 3) := by decide +kernel
theorem dX1_readNumbers_97 : decode cX1_readNumbers 97 = .ok (.getfield 92, 3) := by decide +kernel
theorem dX1_readNumbers_100 : decode cX1_readNumbers 100 = .ok (.aload_n 0, 1) := by decide +kernel
theorem dX1_readNumbers_101 : decode cX1_readNumbers 101 = .ok (.getfield 12, 3) := by decide +kernel
theorem dX1_readNumbers_104 : decode cX1_readNumbers 104 = .ok (.getfield 69, 3) := by decide +kernel
theorem dX1_readNumbers_107 : decode cX1_readNumbers 107 = .ok (.aload_n 1, 1) := by decide +kernel
theorem dX1_readNumbers_108 : decode cX1_readNumbers 108 = .ok (.iconst 0, 1) := by decide +kernel
theorem dX1_readNumbers_109 : decode cX1_readNumbers 109 = .ok (.bipush 20, 2) := by decide +kernel
theorem dX1_readNumbers_111 : decode cX1_readNumbers 111 = .ok (.invokevirtual 78, 3) := by decide +kernel
theorem dX1_readNumbers_114 : decode cX1_readNumbers 114 = .ok (.iastore, 1) := by decide +kernel
theorem dX1_readNumbers_115 : decode cX1_readNumbers 115 = .ok (.aload_n 0, 1) := by decide +kernel
theorem dX1_readNumbers_116 : decode cX1_readNumbers 116 = .ok (.getfield 12, 3) := by decide +kernel
theorem dX1_readNumbers_119 : decode cX1_readNumbers 119 = .ok (.getfield 95, 3) := by decide +kernel
theorem dX1_readNumbers_122 : decode cX1_readNumbers 122 = .ok (.aload_n 0, 1) := by decide +kernel
theorem dX1_readNumbers_123 : decode cX1_readNumbers 123 = .ok (.getfield 12, 3) := by decide +kernel
theorem dX1_readNumbers_126 : decode cX1_readNumbers 126 = .ok (.getfield 69, 3) := by decide +kernel
theorem dX1_readNumbers_129 : decode cX1_readNumbers 129 = .ok (.aload_n 1, 1) := by decide +kernel
theorem dX1_readNumbers_130 : decode cX1_readNumbers 130 = .ok (.iconst 0, 1) := by decide +kernel
theorem dX1_readNumbers_131 : decode cX1_readNumbers 131 = .ok (.bipush 9, 2) := by decide +kernel
theorem dX1_readNumbers_133 : decode cX1_readNumbers 133 = .ok (.invokevirtual 78, 3) := by decide +kernel
theorem dX1_readNumbers_136 : decode cX1_readNumbers 136 = .ok (.iastore, 1) := by decide +kernel
theorem dX1_readNumbers_137 : decode cX1_readNumbers 137 = .ok (.aload_n 0, 1) := by decide +kernel
theorem dX1_readNumbers_138 : decode cX1_readNumbers 138 = .ok (.getfield 12, 3) := by decide +kernel
theorem dX1_readNumbers_141 : decode cX1_readNumbers 141 = .ok (.dup, 1) := by decide +kernel
theorem dX1_readNumbers_142 : decode cX1_readNumbers 142 = .ok (.getfield 69, 3) := by decide +kernel
theorem dX1_readNumbers_145 : decode cX1_readNumbers 145 = .ok (.iconst 1, 1) := by decide +kernel
theorem dX1_readNumbers_146 : decode cX1_readNumbers 146 = .ok (.iadd, 1) := by decide +kernel
theorem dX1_readNumbers_147 : decode cX1_readNumbers 147 = .ok (.putfield 69, 3) := by decide +kernel
theorem dX1_readNumbers_150 : decode cX1_readNumbers 150 = .ok (.goto 154, 3) := by decide +kernel
theorem dX1_readNumbers_153 : decode cX1_readNumbers 153 = .ok (.aload_n 0, 1) := by decide +kernel
theorem dX1_readNumbers_154 : decode cX1_readNumbers 154 = .ok (.aload_n 1, 1) := by decide +kernel
theorem dX1_readNumbers_155 : decode cX1_readNumbers 155 = .ok (.invokevirtual 98, 3) := by decide +kernel
theorem dX1_readNumbers_158 : decode cX1_readNumbers 158 = .ok (.goto 146, 3) := by decide +kernel
theorem dX1_readNumbers_161 : decode cX1_readNumbers 161 = .ok (.aload_n 0, 1) := by decide +kernel
theorem dX1_readNumbers_162 : decode cX1_readNumbers 162 = .ok (.getfield 12, 3) := by decide +kernel
theorem dX1_readNumbers_165 : decode cX1_readNumbers 165 = .ok (.getfield 102, 3) := by decide +kernel
theorem dX1_readNumbers_168 : decode cX1_readNumbers 168 = .ok (.aload_n 0, 1) := by decide +kernel
theorem dX1_readNumbers_169 : decode cX1_readNumbers 169 = .ok (.getfield 12, 3) := by decide +kernel
theorem dX1_readNumbers_172 : decode cX1_readNumbers 172 = .ok (.getfield 72, 3) := by decide +kernel
theorem dX1_readNumbers_175 : decode cX1_readNumbers 175 = .ok (.aload_n 1, 1) := by decide +kernel
theorem dX1_readNumbers_176 : decode cX1_readNumbers 176 = .ok (.bipush 20, 2) := by decide +kernel
theorem dX1_readNumbers_178 : decode cX1_readNumbers 178 = .ok (.bipush 99, 2) := by decide +kernel
theorem dX1_readNumbers_180 : decode cX1_readNumbers 180 = .ok (.invokevirtual 78, 3) := by decide +kernel
theorem dX1_readNumbers_183 : decode cX1_readNumbers 183 = .ok (.iastore, 1) := by decide +kernel
theorem dX1_readNumbers_184 : decode cX1_readNumbers 184 = .ok (.aload_n 0, 1) := by decide +kernel
theorem dX1_readNumbers_185 : decode cX1_readNumbers 185 = .ok (.getfield 12, 3) := by decide +kernel
theorem dX1_readNumbers_188 : decode cX1_readNumbers 188 = .ok (.getfield 105, 3) := by decide +kernel
theorem dX1_readNumbers_191 : decode cX1_readNumbers 191 = .ok (.aload_n 0, 1) := by decide +kernel
theorem dX1_readNumbers_192 : decode cX1_readNumbers 192 = .ok (.getfield 12, 3) := by decide +kernel
theorem dX1_readNumbers_195 : decode cX1_readNumbers 195 = .ok (.getfield 72, 3) := by decide +kernel
theorem dX1_readNumbers_198 : decode cX1_readNumbers 198 = .ok (.aload_n 1, 1) := by decide +kernel
theorem dX1_readNumbers_199 : decode cX1_readNumbers 199 = .ok (.iconst 0, 1) := by decide +kernel
theorem dX1_readNumbers_200 : decode cX1_readNumbers 200 = .ok (.bipush 99, 2) := by decide +kernel
theorem dX1_readNumbers_202 : decode cX1_readNumbers 202 = .ok (.invokevirtual 78, 3) := by decide +kernel
theorem dX1_readNumbers_205 : decode cX1_readNumbers 205 = .ok (.iastore, 1) := by decide +kernel
theorem dX1_readNumbers_206 : decode cX1_readNumbers 206 = .ok (.aload_n 0, 1) := by decide +kernel
theorem dX1_readNumbers_207 : decode cX1_readNumbers 207 = .ok (.getfield 12, 3) := by decide +kernel
theorem dX1_readNumbers_210 : decode cX1_readNumbers 210 = .ok (.dup, 1) := by decide +kernel
theorem dX1_readNumbers_211 : decode cX1_readNumbers 211 = .ok (.getfield 72, 3) := by decide +kernel
theorem dX1_readNumbers_214 : decode cX1_readNumbers 214 = .ok (.iconst 1, 1) := by decide +kernel
theorem dX1_readNumbers_215 : decode cX1_readNumbers 215 = .ok (.iadd, 1) := by decide +kernel
theorem dX1_readNumbers_216 : decode cX1_readNumbers 216 = .ok (.putfield 72, 3) := by decide +kernel
theorem dX1_readNumbers_219 : decode cX1_readNumbers 219 = .ok (.goto 85, 3) := by decide +kernel
theorem dX1_readNumbers_222 : decode cX1_readNumbers 222 = .ok (.aload_n 0, 1) := by decide +kernel
theorem dX1_readNumbers_223 : decode cX1_readNumbers 223 = .ok (.getfield 12, 3) := by decide +kernel
theorem dX1_readNumbers_226 : decode cX1_readNumbers 226 = .ok (.getfield 108, 3) := by decide +kernel
theorem dX1_readNumbers_229 : decode cX1_readNumbers 229 = .ok (.aload_n 0, 1) := by decide +kernel
theorem dX1_readNumbers_230 : decode cX1_readNumbers 230 = .ok (.getfield 12, 3) := by decide +kernel
theorem dX1_readNumbers_233 : decode cX1_readNumbers 233 = .ok (.getfield 75, 3) := by decide +kernel
theorem dX1_readNumbers_236 : decode cX1_readNumbers 236 = .ok (.aload_n 1, 1) := by decide +kernel
theorem dX1_readNumbers_237 : decode cX1_readNumbers 237 = .ok (.iconst 0, 1) := by decide +kernel
theorem dX1_readNumbers_238 : decode cX1_readNumbers 238 = .ok (.bipush 60, 2) := by decide +kernel
theorem dX1_readNumbers_240 : decode cX1_readNumbers 240 = .ok (.invokevirtual 78, 3) := by decide +kernel
theorem dX1_readNumbers_243 : decode cX1_readNumbers 243 = .ok (.iastore, 1) := by decide +kernel
theorem dX1_readNumbers_244 : decode cX1_readNumbers 244 = .ok (.aload_n 0, 1) := by decide +kernel
theorem dX1_readNumbers_245 : decode cX1_readNumbers 245 = .ok (.getfield 12, 3) := by decide +kernel
theorem dX1_readNumbers_248 : decode cX1_readNumbers 248 = .ok (.getfield 111, 3) := by decide +kernel
theorem dX1_readNumbers_251 : decode cX1_readNumbers 251 = .ok (.aload_n 0, 1) := by decide +kernel
theorem dX1_readNumbers_252 : decode cX1_readNumbers 252 = .ok (.getfield 12, 3) := by decide +kernel
theorem dX1_readNumbers_255 : decode cX1_readNumbers 255 = .ok (.getfield 75, 3) := by decide +kernel
theorem dX1_readNumbers_258 : decode cX1_readNumbers 258 = .ok (.aload_n 1, 1) := by decide +kernel
theorem dX1_readNumbers_259 : decode cX1_readNumbers 259 = .ok (.iconst 0, 1) := by decide +kernel
theorem dX1_readNumbers_260 : decode cX1_readNumbers 260 = .ok (.bipush 9, 2) := by decide +kernel
theorem dX1_readNumbers_262 : decode cX1_readNumbers 262 = .ok (.invokevirtual 78, 3) := by decide +kernel
theorem dX1_readNumbers_265 : decode cX1_readNumbers 265 = .ok (.iastore, 1) := by decide +kernel
theorem dX1_readNumbers_266 : decode cX1_readNumbers 266 = .ok (.aload_n 0, 1) := by decide +kernel
theorem dX1_readNumbers_267 : decode cX1_readNumbers 267 = .ok (.getfield 12, 3) := by decide +kernel
theorem dX1_readNumbers_270 : decode cX1_readNumbers 270 = .ok (.dup, 1) := by decide +kernel
theorem dX1_readNumbers_271 : decode cX1_readNumbers 271 = .ok (.getfield 75, 3) := by decide +kernel
theorem dX1_readNumbers_274 : decode cX1_readNumbers 274 = .ok (.iconst 1, 1) := by decide +kernel
theorem dX1_readNumbers_275 : decode cX1_readNumbers 275 = .ok (.iadd, 1) := by decide +kernel
theorem dX1_readNumbers_276 : decode cX1_readNumbers 276 = .ok (.putfield 75, 3) := by decide +kernel
theorem dX1_readNumbers_279 : decode cX1_readNumbers 279 = .ok (.goto 25, 3) := by decide +kernel
theorem dX1_readNumbers_282 : decode cX1_readNumbers 282 = .ok (.aload_n 0, 1) := by decide +kernel
theorem dX1_readNumbers_283 : decode cX1_readNumbers 283 = .ok (.aload_n 1, 1) := by decide +kernel
theorem dX1_readNumbers_284 : decode cX1_readNumbers 284 = .ok (.invokevirtual 114, 3) := by decide +kernel
theorem dX1_readNumbers_287 : decode cX1_readNumbers 287 = .ok (.goto 17, 3) := by decide +kernel
theorem dX1_readNumbers_290 : decode cX1_readNumbers 290 = .ok (.aload_n 0, 1) := by decide +kernel
theorem dX1_readNumbers_291 : decode cX1_readNumbers 291 = .ok (.getfield 12, 3) := by decide +kernel
theorem dX1_readNumbers_294 : decode cX1_readNumbers 294 = .ok (.aload_n 1, 1) := by decide +kernel
theorem dX1_readNumbers_295 : decode cX1_readNumbers 295 = .ok (.iconst 0, 1) := by decide +kernel
theorem dX1_readNumbers_296 : decode cX1_readNumbers 296 = .ok (.bipush 60, 2) := by decide +kernel
theorem dX1_readNumbers_298 : decode cX1_readNumbers 298 = .ok (.invokevirtual 78, 3) := by decide +kernel
theorem dX1_readNumbers_301 : decode cX1_readNumbers 301 = .ok (.invokevirtual 117, 3) := by decide +kernel
theorem dX1_readNumbers_304 : decode cX1_readNumbers 304 = .ok (.return_, 1) := by decide +kernel
theorem dX1_readWay_0 : decode cX1_readWay 0 = .ok (.aload_n 1, 1) := by decide +kernel
theorem dX1_readWay_1 : decode cX1_readWay 1 = .ok (.iconst 0, 1) := by decide +kernel
theorem dX1_readWay_2 : decode cX1_readWay 2 = .ok (.aload_n 0, 1) := by decide +kernel
theorem dX1_readWay_3 : decode cX1_readWay 3 = .ok (.getfield 12, 3) := by decide +kernel
theorem dX1_readWay_6 : decode cX1_readWay 6 = .ok (.getfield 75, 3) := by decide +kernel
theorem dX1_readWay_9 : decode cX1_readWay 9 = .ok (.invokevirtual 78, 3) := by decide +kernel
theorem dX1_readWay_12 : decode cX1_readWay 12 = .ok (.istore_n 2, 1) := by decide +kernel
theorem dX1_readWay_13 : decode cX1_readWay 13 = .ok (.aload_n 1, 1) := by decide +kernel
theorem dX1_readWay_14 : decode cX1_readWay 14 = .ok (.getfield 42, 3) := by decide +kernel
theorem dX1_readWay_17 : decode cX1_readWay 17 = .ok (.istore_n 3, 1) := by decide +kernel
theorem dX1_readWay_18 : decode cX1_readWay 18 = .ok (.aload_n 1, 1) := by decide +kernel
theorem dX1_readWay_19 : decode cX1_readWay 19 = .ok (.iconst 0, 1) := by decide +kernel
theorem dX1_readWay_20 : decode cX1_readWay 20 = .ok (.aload_n 0, 1) := by decide +kernel
theorem dX1_readWay_21 : decode cX1_readWay 21 = .ok (.getfield 12, 3) := by decide +kernel
theorem dX1_readWay_24 : decode cX1_readWay 24 = .ok (.getfield 75, 3) := by decide +kernel
theorem dX1_readWay_27 : decode cX1_readWay 27 = .ok (.invokevirtual 78, 3) := by decide +kernel
theorem dX1_readWay_30 : decode cX1_readWay 30 = .ok (.istore 4, 2) := by decide +kernel
theorem dX1_readWay_32 : decode cX1_readWay 32 = .ok (.iload_n 2, 1) := by decide +kernel
theorem dX1_readWay_33 : decode cX1_readWay 33 = .ok (.iload 4, 2) := by decide +kernel
theorem dX1_readWay_35 : decode cX1_readWay 35 = .ok (.if_icmp .ne 9, 3) := by decide +kernel
theorem dX1_readWay_38 : decode cX1_readWay 38 = .ok (.aload_n 1, 1) := by decide +kernel
theorem dX1_readWay_39 : decode cX1_readWay 39 = .ok (.iload_n 3, 1) := by decide +kernel
theorem dX1_readWay_40 : decode cX1_readWay 40 = .ok (.iconst 1, 1) := by decide +kernel
theorem dX1_readWay_41 : decode cX1_readWay 41 = .ok (.invokevirtual 45, 3) := by decide +kernel
theorem dX1_readWay_44 : decode cX1_readWay 44 = .ok (.aload_n 0, 1) := by decide +kernel
theorem dX1_readWay_45 : decode cX1_readWay 45 = .ok (.getfield 12, 3) := by decide +kernel
theorem dX1_readWay_48 : decode cX1_readWay 48 = .ok (.iload_n 2, 1) := by decide +kernel
theorem dX1_readWay_49 : decode cX1_readWay 49 = .ok (.iload 4, 2) := by decide +kernel
theorem dX1_readWay_51 : decode cX1_readWay 51 = .ok (.aload_n 1, 1) := by decide +kernel
theorem dX1_readWay_52 : decode cX1_readWay 52 = .ok (.iconst 1, 1) := by decide +kernel
theorem dX1_readWay_53 : decode cX1_readWay 53 = .ok (.bipush 12, 2) := by decide +kernel
theorem dX1_readWay_55 : decode cX1_readWay 55 = .ok (.invokevirtual 78, 3) := by decide +kernel
theorem dX1_readWay_58 : decode cX1_readWay 58 = .ok (.invokevirtual 124, 3) := by decide +kernel
theorem dX1_readWay_61 : decode cX1_readWay 61 = .ok (.return_, 1) := by decide +kernel
theorem dX9_fail_0 : decode cX9_fail 0 = .ok (.aload_n 0, 1) := by decide +kernel
theorem dX9_fail_1 : decode cX9_fail 1 = .ok (.getfield 19, 3) := by decide +kernel
theorem dX9_fail_4 : decode cX9_fail 4 = .ok (.ifCond .ne 15, 3) := by decide +kernel
theorem dX9_fail_7 : decode cX9_fail 7 = .ok (.aload_n 0, 1) := by decide +kernel
theorem dX9_fail_8 : decode cX9_fail 8 = .ok (.iconst 1, 1) := by decide +kernel
theorem dX9_fail_9 : decode cX9_fail 9 = .ok (.bipush 8, 2) := by decide +kernel
theorem dX9_fail_11 : decode cX9_fail 11 = .ok (.iload_n 1, 1) := by decide +kernel
theorem dX9_fail_12 : decode cX9_fail 12 = .ok (.imul, 1) := by decide +kernel
theorem dX9_fail_13 : decode cX9_fail 13 = .ok (.iadd, 1) := by decide +kernel
theorem dX9_fail_14 : decode cX9_fail 14 = .ok (.iload_n 2, 1) := by decide +kernel
theorem dX9_fail_15 : decode cX9_fail 15 = .ok (.iadd, 1) := by decide +kernel
theorem dX9_fail_16 : decode cX9_fail 16 = .ok (.putfield 19, 3) := by decide +kernel
theorem dX9_fail_19 : decode cX9_fail 19 = .ok (.return_, 1) := by decide +kernel
theorem dX9_isDigitAt_0 : decode cX9_isDigitAt 0 = .ok (.aload_n 0, 1) := by decide +kernel
theorem dX9_isDigitAt_1 : decode cX9_isDigitAt 1 = .ok (.getfield 19, 3) := by decide +kernel
theorem dX9_isDigitAt_4 : decode cX9_isDigitAt 4 = .ok (.ifCond .ne 37, 3) := by decide +kernel
theorem dX9_isDigitAt_7 : decode cX9_isDigitAt 7 = .ok (.iload_n 1, 1) := by decide +kernel
theorem dX9_isDigitAt_8 : decode cX9_isDigitAt 8 = .ok (.aload_n 0, 1) := by decide +kernel
theorem dX9_isDigitAt_9 : decode cX9_isDigitAt 9 = .ok (.getfield 15, 3) := by decide +kernel
theorem dX9_isDigitAt_12 : decode cX9_isDigitAt 12 = .ok (.if_icmp .ge 29, 3) := by decide +kernel
theorem dX9_isDigitAt_15 : decode cX9_isDigitAt 15 = .ok (.aload_n 0, 1) := by decide +kernel
theorem dX9_isDigitAt_16 : decode cX9_isDigitAt 16 = .ok (.getfield 11, 3) := by decide +kernel
theorem dX9_isDigitAt_19 : decode cX9_isDigitAt 19 = .ok (.iload_n 1, 1) := by decide +kernel
theorem dX9_isDigitAt_20 : decode cX9_isDigitAt 20 = .ok (.baload, 1) := by decide +kernel
theorem dX9_isDigitAt_21 : decode cX9_isDigitAt 21 = .ok (.bipush 48, 2) := by decide +kernel
theorem dX9_isDigitAt_23 : decode cX9_isDigitAt 23 = .ok (.if_icmp .lt 18, 3) := by decide +kernel
theorem dX9_isDigitAt_26 : decode cX9_isDigitAt 26 = .ok (.aload_n 0, 1) := by decide +kernel
theorem dX9_isDigitAt_27 : decode cX9_isDigitAt 27 = .ok (.getfield 11, 3) := by decide +kernel
theorem dX9_isDigitAt_30 : decode cX9_isDigitAt 30 = .ok (.iload_n 1, 1) := by decide +kernel
theorem dX9_isDigitAt_31 : decode cX9_isDigitAt 31 = .ok (.baload, 1) := by decide +kernel
theorem dX9_isDigitAt_32 : decode cX9_isDigitAt 32 = .ok (.bipush 57, 2) := by decide +kernel
theorem dX9_isDigitAt_34 : decode cX9_isDigitAt 34 = .ok (.if_icmp .gt 7, 3) := by decide +kernel
theorem dX9_isDigitAt_37 : decode cX9_isDigitAt 37 = .ok (.iconst 1, 1) := by decide +kernel
theorem dX9_isDigitAt_38 : decode cX9_isDigitAt 38 = .ok (.goto 4, 3) := by decide +kernel
theorem dX9_isDigitAt_41 : decode cX9_isDigitAt 41 = .ok (.iconst 0, 1) := by decide +kernel
theorem dX9_isDigitAt_42 : decode cX9_isDigitAt 42 = .ok (.ireturn, 1) := by decide +kernel
theorem dX9_moveTo_0 : decode cX9_moveTo 0 = .ok (.aload_n 0, 1) := by decide +kernel
theorem dX9_moveTo_1 : decode cX9_moveTo 1 = .ok (.iload_n 1, 1) := by decide +kernel
theorem dX9_moveTo_2 : decode cX9_moveTo 2 = .ok (.putfield 26, 3) := by decide +kernel
theorem dX9_moveTo_5 : decode cX9_moveTo 5 = .ok (.aload_n 0, 1) := by decide +kernel
theorem dX9_moveTo_6 : decode cX9_moveTo 6 = .ok (.getfield 26, 3) := by decide +kernel
theorem dX9_moveTo_9 : decode cX9_moveTo 9 = .ok (.aload_n 0, 1) := by decide +kernel
theorem dX9_moveTo_10 : decode cX9_moveTo 10 = .ok (.getfield 15, 3) := by decide +kernel
theorem dX9_moveTo_13 : decode cX9_moveTo 13 = .ok (.if_icmp .ge 30, 3) := by decide +kernel
theorem dX9_moveTo_16 : decode cX9_moveTo 16 = .ok (.aload_n 0, 1) := by decide +kernel
theorem dX9_moveTo_17 : decode cX9_moveTo 17 = .ok (.getfield 11, 3) := by decide +kernel
theorem dX9_moveTo_20 : decode cX9_moveTo 20 = .ok (.aload_n 0, 1) := by decide +kernel
theorem dX9_moveTo_21 : decode cX9_moveTo 21 = .ok (.getfield 26, 3) := by decide +kernel
theorem dX9_moveTo_24 : decode cX9_moveTo 24 = .ok (.baload, 1) := by decide +kernel
theorem dX9_moveTo_25 : decode cX9_moveTo 25 = .ok (.bipush 32, 2) := by decide +kernel
theorem dX9_moveTo_27 : decode cX9_moveTo 27 = .ok (.if_icmp .ne 16, 3) := by decide +kernel
theorem dX9_moveTo_30 : decode cX9_moveTo 30 = .ok (.aload_n 0, 1) := by decide +kernel
theorem dX9_moveTo_31 : decode cX9_moveTo 31 = .ok (.dup, 1) := by decide +kernel
theorem dX9_moveTo_32 : decode cX9_moveTo 32 = .ok (.getfield 26, 3) := by decide +kernel
theorem dX9_moveTo_35 : decode cX9_moveTo 35 = .ok (.iconst 1, 1) := by decide +kernel
theorem dX9_moveTo_36 : decode cX9_moveTo 36 = .ok (.iadd, 1) := by decide +kernel
theorem dX9_moveTo_37 : decode cX9_moveTo 37 = .ok (.putfield 26, 3) := by decide +kernel
theorem dX9_moveTo_40 : decode cX9_moveTo 40 = .ok (.goto (-35), 3) := by decide +kernel
theorem dX9_moveTo_43 : decode cX9_moveTo 43 = .ok (.return_, 1) := by decide +kernel
theorem dX9_takeNumber_0 : decode cX9_takeNumber 0 = .ok (.aload_n 0, 1) := by decide +kernel
theorem dX9_takeNumber_1 : decode cX9_takeNumber 1 = .ok (.getfield 26, 3) := by decide +kernel
theorem dX9_takeNumber_4 : decode cX9_takeNumber 4 = .ok (.istore_n 3, 1) := by decide +kernel
theorem dX9_takeNumber_5 : decode cX9_takeNumber 5 = .ok (.iload_n 3, 1) := by decide +kernel
theorem dX9_takeNumber_6 : decode cX9_takeNumber 6 = .ok (.istore 4, 2) := by decide +kernel
theorem dX9_takeNumber_8 : decode cX9_takeNumber 8 = .ok (.iconst 0, 1) := by decide +kernel
theorem dX9_takeNumber_9 : decode cX9_takeNumber 9 = .ok (.istore 5, 2) := by decide +kernel
theorem dX9_takeNumber_11 : decode cX9_takeNumber 11 = .ok (.iload 4, 2) := by decide +kernel
theorem dX9_takeNumber_13 : decode cX9_takeNumber 13 = .ok (.aload_n 0, 1) := by decide +kernel
theorem dX9_takeNumber_14 : decode cX9_takeNumber 14 = .ok (.getfield 15, 3) := by decide +kernel
theorem dX9_takeNumber_17 : decode cX9_takeNumber 17 = .ok (.if_icmp .ge 44, 3) := by decide +kernel
theorem dX9_takeNumber_20 : decode cX9_takeNumber 20 = .ok (.aload_n 0, 1) := by decide +kernel
theorem dX9_takeNumber_21 : decode cX9_takeNumber 21 = .ok (.iload 4, 2) := by decide +kernel
theorem dX9_takeNumber_23 : decode cX9_takeNumber 23 = .ok (.invokevirtual 46, 3) := by decide +kernel
theorem dX9_takeNumber_26 : decode cX9_takeNumber 26 = .ok (.ifCond .eq 35, 3) := by decide +kernel
theorem dX9_takeNumber_29 : decode cX9_takeNumber 29 = .ok (.iload 4, 2) := by decide +kernel
theorem dX9_takeNumber_31 : decode cX9_takeNumber 31 = .ok (.iload_n 3, 1) := by decide +kernel
theorem dX9_takeNumber_32 : decode cX9_takeNumber 32 = .ok (.isub, 1) := by decide +kernel
theorem dX9_takeNumber_33 : decode cX9_takeNumber 33 = .ok (.iconst 5, 1) := by decide +kernel
theorem dX9_takeNumber_34 : decode cX9_takeNumber 34 = .ok (.if_icmp .ge 21, 3) := by decide +kernel
theorem dX9_takeNumber_37 : decode cX9_takeNumber 37 = .ok (.iload 5, 2) := by decide +kernel
theorem dX9_takeNumber_39 : decode cX9_takeNumber 39 = .ok (.bipush 10, 2) := by decide +kernel
theorem dX9_takeNumber_41 : decode cX9_takeNumber 41 = .ok (.imul, 1) := by decide +kernel
theorem dX9_takeNumber_42 : decode cX9_takeNumber 42 = .ok (.aload_n 0, 1) := by decide +kernel
theorem dX9_takeNumber_43 : decode cX9_takeNumber 43 = .ok (.getfield 11, 3) := by decide +kernel
theorem dX9_takeNumber_46 : decode cX9_takeNumber 46 = .ok (.iload 4, 2) := by decide +kernel
theorem dX9_takeNumber_48 : decode cX9_takeNumber 48 = .ok (.baload, 1) := by decide +kernel
theorem dX9_takeNumber_49 : decode cX9_takeNumber 49 = .ok (.iadd, 1) := by decide +kernel
theorem dX9_takeNumber_50 : decode cX9_takeNumber 50 = .ok (.bipush 48, 2) := by decide +kernel
theorem dX9_takeNumber_52 : decode cX9_takeNumber 52 = .ok (.isub, 1) := by decide +kernel
theorem dX9_takeNumber_53 : decode cX9_takeNumber 53 = .ok (.istore 5, 2) := by decide +kernel
theorem dX9_takeNumber_55 : decode cX9_takeNumber 55 = .ok (.iinc 4 1, 3) := by decide +kernel
theorem dX9_takeNumber_58 : decode cX9_takeNumber 58 = .ok (.goto (-47), 3) := by decide +kernel
theorem dX9_takeNumber_61 : decode cX9_takeNumber 61 = .ok (.iload 4, 2) := by decide +kernel
theorem dX9_takeNumber_63 : decode cX9_takeNumber 63 = .ok (.iload_n 3, 1) := by decide +kernel
theorem dX9_takeNumber_64 : decode cX9_takeNumber 64 = .ok (.if_icmp .ne 12, 3) := by decide +kernel
theorem dX9_takeNumber_67 : decode cX9_takeNumber 67 = .ok (.aload_n 0, 1) := by decide +kernel
theorem dX9_takeNumber_68 : decode cX9_takeNumber 68 = .ok (.iload_n 3, 1) := by decide +kernel
theorem dX9_takeNumber_69 : decode cX9_takeNumber 69 = .ok (.iconst 0, 1) := by decide +kernel
theorem dX9_takeNumber_70 : decode cX9_takeNumber 70 = .ok (.invokevirtual 50, 3) := by decide +kernel
theorem dX9_takeNumber_73 : decode cX9_takeNumber 73 = .ok (.goto 29, 3) := by decide +kernel
theorem dX9_takeNumber_76 : decode cX9_takeNumber 76 = .ok (.iload 4, 2) := by decide +kernel
theorem dX9_takeNumber_78 : decode cX9_takeNumber 78 = .ok (.iload_n 3, 1) := by decide +kernel
theorem dX9_takeNumber_79 : decode cX9_takeNumber 79 = .ok (.isub, 1) := by decide +kernel
theorem dX9_takeNumber_80 : decode cX9_takeNumber 80 = .ok (.iconst 5, 1) := by decide +kernel
theorem dX9_takeNumber_81 : decode cX9_takeNumber 81 = .ok (.if_icmp .gt 15, 3) := by decide +kernel
theorem dX9_takeNumber_84 : decode cX9_takeNumber 84 = .ok (.iload 5, 2) := by decide +kernel
theorem dX9_takeNumber_86 : decode cX9_takeNumber 86 = .ok (.iload_n 1, 1) := by decide +kernel
theorem dX9_takeNumber_87 : decode cX9_takeNumber 87 = .ok (.if_icmp .lt 9, 3) := by decide +kernel
theorem dX9_takeNumber_90 : decode cX9_takeNumber 90 = .ok (.iload 5, 2) := by decide +kernel
theorem dX9_takeNumber_92 : decode cX9_takeNumber 92 = .ok (.iload_n 2, 1) := by decide +kernel
theorem dX9_takeNumber_93 : decode cX9_takeNumber 93 = .ok (.if_icmp .le 9, 3) := by decide +kernel
theorem dX9_takeNumber_96 : decode cX9_takeNumber 96 = .ok (.aload_n 0, 1) := by decide +kernel
theorem dX9_takeNumber_97 : decode cX9_takeNumber 97 = .ok (.iload_n 3, 1) := by decide +kernel
theorem dX9_takeNumber_98 : decode cX9_takeNumber 98 = .ok (.iconst 1, 1) := by decide +kernel
theorem dX9_takeNumber_99 : decode cX9_takeNumber 99 = .ok (.invokevirtual 50, 3) := by decide +kernel
theorem dX9_takeNumber_102 : decode cX9_takeNumber 102 = .ok (.aload_n 0, 1) := by decide +kernel
theorem dX9_takeNumber_103 : decode cX9_takeNumber 103 = .ok (.iload 4, 2) := by decide +kernel
theorem dX9_takeNumber_105 : decode cX9_takeNumber 105 = .ok (.invokevirtual 22, 3) := by decide +kernel
theorem dX9_takeNumber_108 : decode cX9_takeNumber 108 = .ok (.aload_n 0, 1) := by decide +kernel
theorem dX9_takeNumber_109 : decode cX9_takeNumber 109 = .ok (.getfield 19, 3) := by decide +kernel
theorem dX9_takeNumber_112 : decode cX9_takeNumber 112 = .ok (.ifCond .ne 8, 3) := by decide +kernel
theorem dX9_takeNumber_115 : decode cX9_takeNumber 115 = .ok (.iload 5, 2) := by decide +kernel
theorem dX9_takeNumber_117 : decode cX9_takeNumber 117 = .ok (.goto 4, 3) := by decide +kernel
theorem dX9_takeNumber_120 : decode cX9_takeNumber 120 = .ok (.iload_n 1, 1) := by decide +kernel
theorem dX9_takeNumber_121 : decode cX9_takeNumber 121 = .ok (.ireturn, 1) := by decide +kernel
theorem iX1 : ∀ w ∈ u_ws RX1 TX1 1, w ∈ gT := i_of (by decide +kernel)
theorem iX9 : ∀ w ∈ u_ws RX9 TX9 4, w ∈ gT := i_of (by decide +kernel)
theorem li_12 : (12 : Int32).toInt = 12 := by decide
theorem li_24 : (24 : Int32).toInt = 24 := by decide
theorem li_40 : (40 : Int32).toInt = 40 := by decide
theorem li_48 : (48 : Int32).toInt = 48 := by decide
theorem li_5 : (5 : Int32).toInt = 5 := by decide
theorem li_57 : (57 : Int32).toInt = 57 := by decide
theorem li_8 : (8 : Int32).toInt = 8 := by decide
theorem li_99 : (99 : Int32).toInt = 99 := by decide
set_option maxHeartbeats 4000000 in
set_option maxRecDepth 100000 in
theorem t_X11_isCanon (l : Launch) (dC : Nat → ClassId) (dI : Nat → Nat → Nat) (tys : List (ClassId × FieldType)) (κ : tK) (B : Nat) (ws : va_W) (hT : Ty κ tys B ws) (a0 : Nat) (k_a0 : κ a0 = some 11) (a1 : Int32) (sz : Nat) : Met l yX11_isCanon (ws_u yX11_isCanon cX11_isCanon 2 (some .boolean)) ({ frames := 0, cells := 0, slots := 0, locals := 0 }) (va_Pc [.ref a0, .int a1] (cPre (dC, dI) tys ws sz)) (va_Qi (fun (r : Int32) (w : va_W) => 0 ≤ r.toInt ∧ r.toInt ≤ 1 ∧ Ty κ tys B w ∧ Sm [] [] κ ws w ∧ (r.toInt = 0 ∨ 0 ≤ a1.toInt ∧ a1.toInt ≤ 3)) (fun w t => cPost (dC, dI) tys w (va_A ws sz) t) (va_A ws sz)) 0 0 (va_A ws sz) := by
  refine Met.ofW (cc := cX11_isCanon) (maxL := 2) (ret := (some .boolean)) (by decide) rfl ?_
  intro p e s m args below meth c s₁ B0 hml hv
  obtain ⟨rfl, hsz, hP, hK, hD0, hE⟩ := hv
  have hx := B0.exec
  have hb := B0.bytes
  have hr := B0.returns
  have hts0 := atoms_spec (ws := ws_u yX11_isCanon cX11_isCanon 2 (some .boolean)) B0.pre
  have hts : ∀ w ∈ gT, w.before _ s = true := fun w h => hts0 w (List.mem_cons_of_mem _ h)
  have hown : s.vm.findClass RX11 = some m.cls := findClass_of_methodNamed B0.named
  have hlocks := B0.notSynchronized
  subst hsz
  have hD := hD0.self (sz := s.heap.size)
  generalize hAe : va_A ws s.heap.size = A at hD ⊢
  have hA : ∀ q : Nat, s.heap.size ≤ q → A q := fun q h => by rw [← hAe]; exact Or.inr h
  have hw : tW (dC, dI) tys κ B A s ws s.heap [] := ⟨hK, hP, hD, va_S.rf, hT⟩
  have hM : Sm [] [] κ ws ws := Sm.rf
  clear hP hK hD hD0 hts0
  have l_a1 := i32_lo a1
  have h_a1 := i32_hi a1
  have hl := lv_entry ([.ref a0, .int a1]) (n := 2) (Nat.le_of_ble_eq_true rfl)
  rw [lg_entry_eq]
  generalize (lg_sl ([.ref a0, .int a1]) ++ List.replicate (2 - (lg_sl ([.ref a0, .int a1])).length) Slot.unset).toArray = ls at hl ⊢
  have hl : lv_has ls 2 [(0, .ref a0), (1, .int a1)] := hl
  refine t_start (fun QQ hQ => ?_)
  refine lv_iload_n hx hb dX11_isCanon_0 rfl (lv_at hl 1 rfl) ?_
  refine lv_if_lt (tgt := 22) hx hb dX11_isCanon_1 (by decide) (fun c_1 => ?_) (fun c_1 => ?_)
  · simp only [fa_lt, fa_le, fa_eq, li_0] at c_1
    refine lv_iconst (v := 0) hx hb dX11_isCanon_22 (by decide) ?_
    rw [hQ]
    refine W.widen (k := 0) (n := 0) (Nat.le_refl _) (Nat.le_refl _) ?_
    exact W.zret (v := 0) hx hb hr rfl (fun t ht hW => ⟨⟨0, ws, rfl, ⟨(by decide), (by decide), hw.2.2.2.2, hM, (by have := li_0; omega)⟩, by rw [ht]; exact hw.2.1, va_K.moved hW.alike hw.1, hw.2.2.1⟩, hw.2.2.2.1.F ht⟩) hw.2.2.2.1.2.2 dX11_isCanon_23
  · simp only [fa_lt, fa_le, fa_eq, li_0] at c_1
    refine lv_iload_n hx hb dX11_isCanon_4 rfl (lv_at hl 1 rfl) ?_
    refine lv_aload_n hx hb dX11_isCanon_5 rfl (lv_at hl 0 rfl) ?_
    refine t_getr (k1 := 10) (ci := 11) (C := RX11) (T := TX11) (N := 12) hx hb hts iX11 hown hw k_a0 rfl rfl rfl 5 (by decide) (hts _ tw_428) (fun _ h9 => h9) dX11_isCanon_6 rfl (fun v6 k_v6 f_a0_X11_5 => ?_)
    refine t_getr (k1 := 0) (ci := 10) (C := RX10) (T := TX10) (N := 8) hx hb hts iX10 hown hw k_v6 rfl rfl rfl 0 (by decide) (hts _ tw_282) (fun _ h9 => h9) dX11_isCanon_9 rfl (fun v9 k_v9 f_v6_X10_0 => ?_)
    refine t_geti (ci := 0) (C := RX0) (T := TX0) (N := 16) hx hb hts iX0 hown hw k_v9 rfl rfl rfl 4 (by decide) (hts _ tw_85) (fun _ h9 => h9) dX11_isCanon_12 rfl (fun v12 l_v12 h_v12 f_v9_X0_4 => ?_)
    have l_v12 : 0 ≤ v12.toInt := l_v12
    have h_v12 : v12.toInt ≤ 4 := h_v12
    refine lv_icmp_ge (tgt := 22) hx hb dX11_isCanon_15 (by decide) (fun c_15 => ?_) (fun c_15 => ?_)
    · simp only [fa_lt, fa_le, fa_eq] at c_15
      refine lv_iconst (v := 0) hx hb dX11_isCanon_22 (by decide) ?_
      rw [hQ]
      refine W.widen (k := 0) (n := 0) (Nat.le_refl _) (Nat.le_refl _) ?_
      exact W.zret (v := 0) hx hb hr rfl (fun t ht hW => ⟨⟨0, ws, rfl, ⟨(by decide), (by decide), hw.2.2.2.2, hM, (by have := li_0; omega)⟩, by rw [ht]; exact hw.2.1, va_K.moved hW.alike hw.1, hw.2.2.1⟩, hw.2.2.2.1.F ht⟩) hw.2.2.2.1.2.2 dX11_isCanon_23
    · simp only [fa_lt, fa_le, fa_eq] at c_15
      refine lv_iconst (v := 1) hx hb dX11_isCanon_18 (by decide) ?_
      refine lv_goto (tgt := 23) hx hb dX11_isCanon_19 (by decide) ?_
      rw [hQ]
      refine W.widen (k := 0) (n := 0) (Nat.le_refl _) (Nat.le_refl _) ?_
      exact W.zret (v := 1) hx hb hr rfl (fun t ht hW => ⟨⟨1, ws, rfl, ⟨(by decide), (by decide), hw.2.2.2.2, hM, (by have := li_1; omega)⟩, by rw [ht]; exact hw.2.1, va_K.moved hW.alike hw.1, hw.2.2.1⟩, hw.2.2.2.1.F ht⟩) hw.2.2.2.1.2.2 dX11_isCanon_23
set_option maxHeartbeats 4000000 in
set_option maxRecDepth 100000 in
theorem t_X11_canon (l : Launch) (dC : Nat → ClassId) (dI : Nat → Nat → Nat) (tys : List (ClassId × FieldType)) (κ : tK) (B : Nat) (ws : va_W) (hT : Ty κ tys B ws) (a0 : Nat) (k_a0 : κ a0 = some 11) (a1 : Int32) (a2 : Int32) (sz : Nat) : Met l yX11_canon (ws_u yX11_canon cX11_canon 3 (some .int)) ({ frames := 1, cells := 0, slots := 0, locals := 21 }) (va_Pc [.ref a0, .int a1, .int a2] (cPre (dC, dI) tys ws sz)) (va_Qi (fun (r : Int32) (w : va_W) => Ty κ tys B w ∧ Sm [] [] κ ws w) (fun w t => cPost (dC, dI) tys w (va_A ws sz) t) (va_A ws sz)) 0 0 (va_A ws sz) := by
  refine Met.ofW (cc := cX11_canon) (maxL := 3) (ret := (some .int)) (by decide) rfl ?_
  intro p e s m args below meth c s₁ B0 hml hv
  obtain ⟨rfl, hsz, hP, hK, hD0, hE⟩ := hv
  have hx := B0.exec
  have hb := B0.bytes
  have hr := B0.returns
  have hts0 := atoms_spec (ws := ws_u yX11_canon cX11_canon 3 (some .int)) B0.pre
  have hts : ∀ w ∈ gT, w.before _ s = true := fun w h => hts0 w (List.mem_cons_of_mem _ h)
  have hown : s.vm.findClass RX11 = some m.cls := findClass_of_methodNamed B0.named
  have hlocks := B0.notSynchronized
  subst hsz
  have hD := hD0.self (sz := s.heap.size)
  generalize hAe : va_A ws s.heap.size = A at hD ⊢
  have hA : ∀ q : Nat, s.heap.size ≤ q → A q := fun q h => by rw [← hAe]; exact Or.inr h
  have hw : tW (dC, dI) tys κ B A s ws s.heap [] := ⟨hK, hP, hD, va_S.rf, hT⟩
  have hM : Sm [] [] κ ws ws := Sm.rf
  clear hP hK hD hD0 hts0
  have l_a1 := i32_lo a1
  have h_a1 := i32_hi a1
  have l_a2 := i32_lo a2
  have h_a2 := i32_hi a2
  have hl := lv_entry ([.ref a0, .int a1, .int a2]) (n := 3) (Nat.le_of_ble_eq_true rfl)
  rw [lg_entry_eq]
  generalize (lg_sl ([.ref a0, .int a1, .int a2]) ++ List.replicate (3 - (lg_sl ([.ref a0, .int a1, .int a2])).length) Slot.unset).toArray = ls at hl ⊢
  have hl : lv_has ls 3 [(0, .ref a0), (1, .int a1), (2, .int a2)] := hl
  refine t_start (fun QQ hQ => ?_)
  refine lv_aload_n hx hb dX11_canon_0 rfl (lv_at hl 0 rfl) ?_
  refine lv_iload_n hx hb dX11_canon_1 rfl (lv_at hl 1 rfl) ?_
  refine t_calli (va_runV (As := [.int a1]) (rest := []) ⟨hx, hb, hml, hown, hts⟩ (t_X11_isCanon l dC dI tys κ B ws hw.2.2.2.2 a0 k_a0 a1 s.heap.size) (cwV 1 hts (gUV tw_722 tw_724 ts_1_0 tw_1 tw_725) rfl rfl rfl (by decide +kernel) ⟨(Nat.le_of_ble_eq_true rfl), (Nat.le_of_ble_eq_true rfl)⟩) ⟨cPre.blind, t_recv hw (ci := 11) k_a0 rfl rfl, cPre.use hw.2.1 hw.1 hw.2.2.1 hE⟩ rfl rfl hl.1 rfl (lv_room (Nat.le_of_ble_eq_true rfl)) dX11_canon_2 ⟨(Nat.le_of_ble_eq_true rfl), (Nat.le_of_ble_eq_true rfl)⟩) hw hA (fun _ _ h => h.2.2.1) (fun v2 w_1 H locs hp hw => ?_)
  obtain ⟨l_v2, h_v2, _, hm, x_v2_0⟩ := hp
  have hM := hM.trans hm (by decide) (by decide)
  refine lv_if_ne (tgt := 11) hx hb dX11_canon_5 (by decide) (fun c_5 => ?_) (fun c_5 => ?_)
  · simp only [fa_lt, fa_le, fa_eq, li_0] at c_5
    refine lv_iload_n hx hb dX11_canon_11 rfl (lv_at hl 2 rfl) ?_
    rcases Classical.em (a2.toInt = 0) with c_12_0 | c_12_0
    · refine lv_tableIn (tgt := 44) hx hb dX11_canon_12 (by omega) (by omega) (by rw [c_12_0]; rfl) (by decide) ?_
      refine lv_aload_n hx hb dX11_canon_44 rfl (lv_at hl 0 rfl) ?_
      refine t_getr (k1 := 10) (ci := 11) (C := RX11) (T := TX11) (N := 12) hx hb hts iX11 hown hw k_a0 rfl rfl rfl 5 (by decide) (hts _ tw_428) (fun _ h9 => h9) dX11_canon_45 rfl (fun v45 k_v45 f_a0_X11_5 => ?_)
      refine t_getr (k1 := 8) (ci := 10) (C := RX10) (T := TX10) (N := 8) hx hb hts iX10 hown hw k_v45 rfl rfl rfl 1 (by decide) (hts _ tw_285) (fun _ h9 => h9) dX11_canon_48 rfl (fun v48 k_v48 f_v45_X10_1 => ?_)
      refine t_getr (k1 := 46) (ci := 8) (C := RX8) (T := TX8) (N := 13) hx hb hts iX8 hown hw k_v48 rfl rfl rfl 10 (by decide) (hts _ tw_249) (fun _ h9 => h9) dX11_canon_51 rfl (fun v51 k_v51 f_v48_X8_10 => ?_)
      refine lv_iload_n hx hb dX11_canon_54 rfl (lv_at hl 1 rfl) ?_
      refine t_iald hx hb hw k_v51 rfl rfl (by omega) (show a1.toInt < 4 by omega) dX11_canon_55 (fun v55 r_v55 s_v55 q_v55 => ?_)
      have l_v55 := i32_lo v55
      have h_v55 := i32_hi v55
      rw [hQ]
      refine W.widen (k := 0) (n := 0) (Nat.le_refl _) (Nat.le_refl _) ?_
      exact W.iret (v := v55) hx hb hr (fun t ht hW => ⟨⟨v55, w_1, rfl, ⟨hw.2.2.2.2, hM⟩, by rw [ht]; exact hw.2.1, va_K.moved hW.alike hw.1, hw.2.2.1⟩, hw.2.2.2.1.F ht⟩) hw.2.2.2.1.2.2 dX11_canon_56
    rcases Classical.em (a2.toInt = 1) with c_12_1 | c_12_1
    · refine lv_tableIn (tgt := 57) hx hb dX11_canon_12 (by omega) (by omega) (by rw [c_12_1]; rfl) (by decide) ?_
      refine lv_aload_n hx hb dX11_canon_57 rfl (lv_at hl 0 rfl) ?_
      refine t_getr (k1 := 10) (ci := 11) (C := RX11) (T := TX11) (N := 12) hx hb hts iX11 hown hw k_a0 rfl rfl rfl 5 (by decide) (hts _ tw_428) (fun _ h9 => h9) dX11_canon_58 rfl (fun v58 k_v58 f_a0_X11_5 => ?_)
      refine t_getr (k1 := 0) (ci := 10) (C := RX10) (T := TX10) (N := 8) hx hb hts iX10 hown hw k_v58 rfl rfl rfl 0 (by decide) (hts _ tw_282) (fun _ h9 => h9) dX11_canon_61 rfl (fun v61 k_v61 f_v58_X10_0 => ?_)
      refine t_getr (k1 := 25) (ci := 0) (C := RX0) (T := TX0) (N := 16) hx hb hts iX0 hown hw k_v61 rfl rfl rfl 11 (by decide) (hts _ tw_110) (fun _ h9 => h9) dX11_canon_64 rfl (fun v64 k_v64 f_v61_X0_11 => ?_)
      refine lv_iload_n hx hb dX11_canon_67 rfl (lv_at hl 1 rfl) ?_
      refine t_iald hx hb hw k_v64 rfl rfl (by omega) (show a1.toInt < 4 by omega) dX11_canon_68 (fun v68 r_v68 s_v68 q_v68 => ?_)
      have l_v68 := i32_lo v68
      have h_v68 := i32_hi v68
      rw [hQ]
      refine W.widen (k := 0) (n := 0) (Nat.le_refl _) (Nat.le_refl _) ?_
      exact W.iret (v := v68) hx hb hr (fun t ht hW => ⟨⟨v68, w_1, rfl, ⟨hw.2.2.2.2, hM⟩, by rw [ht]; exact hw.2.1, va_K.moved hW.alike hw.1, hw.2.2.1⟩, hw.2.2.2.1.F ht⟩) hw.2.2.2.1.2.2 dX11_canon_69
    rcases Classical.em (a2.toInt = 2) with c_12_2 | c_12_2
    · refine lv_tableIn (tgt := 70) hx hb dX11_canon_12 (by omega) (by omega) (by rw [c_12_2]; rfl) (by decide) ?_
      refine lv_aload_n hx hb dX11_canon_70 rfl (lv_at hl 0 rfl) ?_
      refine t_getr (k1 := 10) (ci := 11) (C := RX11) (T := TX11) (N := 12) hx hb hts iX11 hown hw k_a0 rfl rfl rfl 5 (by decide) (hts _ tw_428) (fun _ h9 => h9) dX11_canon_71 rfl (fun v71 k_v71 f_a0_X11_5 => ?_)
      refine t_getr (k1 := 8) (ci := 10) (C := RX10) (T := TX10) (N := 8) hx hb hts iX10 hown hw k_v71 rfl rfl rfl 1 (by decide) (hts _ tw_285) (fun _ h9 => h9) dX11_canon_74 rfl (fun v74 k_v74 f_v71_X10_1 => ?_)
      refine t_geti (ci := 8) (C := RX8) (T := TX8) (N := 13) hx hb hts iX8 hown hw k_v74 rfl rfl rfl 6 (by decide) (hts _ tw_237) (fun _ h9 => h9) dX11_canon_77 rfl (fun v77 l_v77 h_v77 f_v74_X8_6 => ?_)
      have l_v77 : (-2147483648) ≤ v77.toInt := l_v77
      have h_v77 : v77.toInt ≤ 2147483647 := h_v77
      refine lv_iload_n hx hb dX11_canon_80 rfl (lv_at hl 1 rfl) ?_
      refine lv_ishr hx hb dX11_canon_81 ?_
      refine lv_topi (fun v81 e_v81 => ?_)
      have l_v81 := i32_lo v81
      have h_v81 := i32_hi v81
      refine lv_iconst (v := 1) hx hb dX11_canon_82 (by decide) ?_
      refine lv_iand hx hb dX11_canon_83 ?_
      refine lv_topi (fun v83 e_v83 => ?_)
      have ⟨l_v83, h_v83⟩ : 0 ≤ v83.toInt ∧ v83.toInt ≤ 1 := and_r e_v83 li_1 (by decide)
      rw [hQ]
      refine W.widen (k := 0) (n := 0) (Nat.le_refl _) (Nat.le_refl _) ?_
      exact W.iret (v := v83) hx hb hr (fun t ht hW => ⟨⟨v83, w_1, rfl, ⟨hw.2.2.2.2, hM⟩, by rw [ht]; exact hw.2.1, va_K.moved hW.alike hw.1, hw.2.2.1⟩, hw.2.2.2.1.F ht⟩) hw.2.2.2.1.2.2 dX11_canon_84
    rcases Classical.em (a2.toInt = 3) with c_12_3 | c_12_3
    · refine lv_tableIn (tgt := 85) hx hb dX11_canon_12 (by omega) (by omega) (by rw [c_12_3]; rfl) (by decide) ?_
      refine lv_aload_n hx hb dX11_canon_85 rfl (lv_at hl 0 rfl) ?_
      refine t_getr (k1 := 10) (ci := 11) (C := RX11) (T := TX11) (N := 12) hx hb hts iX11 hown hw k_a0 rfl rfl rfl 5 (by decide) (hts _ tw_428) (fun _ h9 => h9) dX11_canon_86 rfl (fun v86 k_v86 f_a0_X11_5 => ?_)
      refine t_getr (k1 := 8) (ci := 10) (C := RX10) (T := TX10) (N := 8) hx hb hts iX10 hown hw k_v86 rfl rfl rfl 1 (by decide) (hts _ tw_285) (fun _ h9 => h9) dX11_canon_89 rfl (fun v89 k_v89 f_v86_X10_1 => ?_)
      refine t_getr (k1 := 47) (ci := 8) (C := RX8) (T := TX8) (N := 13) hx hb hts iX8 hown hw k_v89 rfl rfl rfl 11 (by decide) (hts _ tw_251) (fun _ h9 => h9) dX11_canon_92 rfl (fun v92 k_v92 f_v89_X8_11 => ?_)
      refine lv_iload_n hx hb dX11_canon_95 rfl (lv_at hl 1 rfl) ?_
      refine t_iald hx hb hw k_v92 rfl rfl (by omega) (show a1.toInt < 4 by omega) dX11_canon_96 (fun v96 r_v96 s_v96 q_v96 => ?_)
      have l_v96 := i32_lo v96
      have h_v96 := i32_hi v96
      rw [hQ]
      refine W.widen (k := 0) (n := 0) (Nat.le_refl _) (Nat.le_refl _) ?_
      exact W.iret (v := v96) hx hb hr (fun t ht hW => ⟨⟨v96, w_1, rfl, ⟨hw.2.2.2.2, hM⟩, by rw [ht]; exact hw.2.1, va_K.moved hW.alike hw.1, hw.2.2.1⟩, hw.2.2.2.1.F ht⟩) hw.2.2.2.1.2.2 dX11_canon_97
    · refine lv_tableOut (tgt := 98) hx hb dX11_canon_12 (by omega) (by decide) ?_
      refine lv_bipush (v := (-2)) hx hb dX11_canon_98 (by decide) ?_
      rw [hQ]
      refine W.widen (k := 0) (n := 0) (Nat.le_refl _) (Nat.le_refl _) ?_
      exact W.iret (v := (-2)) hx hb hr (fun t ht hW => ⟨⟨(-2), w_1, rfl, ⟨hw.2.2.2.2, hM⟩, by rw [ht]; exact hw.2.1, va_K.moved hW.alike hw.1, hw.2.2.1⟩, hw.2.2.2.1.F ht⟩) hw.2.2.2.1.2.2 dX11_canon_100
  · simp only [fa_lt, fa_le, fa_eq, li_0] at c_5
    refine lv_bipush (v := (-2)) hx hb dX11_canon_8 (by decide) ?_
    rw [hQ]
    refine W.widen (k := 0) (n := 0) (Nat.le_refl _) (Nat.le_refl _) ?_
    exact W.iret (v := (-2)) hx hb hr (fun t ht hW => ⟨⟨(-2), w_1, rfl, ⟨hw.2.2.2.2, hM⟩, by rw [ht]; exact hw.2.1, va_K.moved hW.alike hw.1, hw.2.2.1⟩, hw.2.2.2.1.F ht⟩) hw.2.2.2.1.2.2 dX11_canon_10
set_option maxHeartbeats 4000000 in
set_option maxRecDepth 100000 in
theorem t_X1_isFull (l : Launch) (dC : Nat → ClassId) (dI : Nat → Nat → Nat) (tys : List (ClassId × FieldType)) (κ : tK) (B : Nat) (ws : va_W) (hT : Ty κ tys B ws) (a0 : Nat) (k_a0 : κ a0 = some 1) (a1 : Int32) (f0 : Nat) (k_f0 : κ f0 = some 0) (f_a0_X1_0 : fld ws a0 1 0 (.ref f0)) (f1 : Int32) (l_f1 : 0 ≤ f1.toInt) (h_f1 : f1.toInt ≤ 6) (f_f0_X0_3 : fld ws f0 0 3 (.int f1)) (f2 : Int32) (l_f2 : 0 ≤ f2.toInt) (h_f2 : f2.toInt ≤ 4) (f_f0_X0_4 : fld ws f0 0 4 (.int f2)) (f3 : Int32) (l_f3 : 0 ≤ f3.toInt) (h_f3 : f3.toInt ≤ 6) (f_f0_X0_5 : fld ws f0 0 5 (.int f3)) (sz : Nat) : Met l yX1_isFull (ws_u yX1_isFull cX1_isFull 2 (some .boolean)) ({ frames := 0, cells := 0, slots := 0, locals := 0 }) (va_Pc [.ref a0, .int a1] (cPre (dC, dI) tys ws sz)) (va_Qi (fun (r : Int32) (w : va_W) => 0 ≤ r.toInt ∧ r.toInt ≤ 1 ∧ Ty κ tys B w ∧ Sm [] [] κ ws w ∧ (r.toInt = 0 ∨ 1 ≤ a1.toInt ∧ a1.toInt ≤ 4) ∧ (r.toInt ≠ 0 ∨ ((a1.toInt ≠ 1 ∨ f1.toInt ≤ 5) ∧ (a1.toInt ≠ 3 ∨ f2.toInt ≤ 3) ∧ (a1.toInt ≠ 4 ∨ f3.toInt ≤ 5)))) (fun w t => cPost (dC, dI) tys w (va_A ws sz) t) (va_A ws sz)) 0 0 (va_A ws sz) := by
  refine Met.ofW (cc := cX1_isFull) (maxL := 2) (ret := (some .boolean)) (by decide) rfl ?_
  intro p e s m args below meth c s₁ B0 hml hv
  obtain ⟨rfl, hsz, hP, hK, hD0, hE⟩ := hv
  have hx := B0.exec
  have hb := B0.bytes
  have hr := B0.returns
  have hts0 := atoms_spec (ws := ws_u yX1_isFull cX1_isFull 2 (some .boolean)) B0.pre
  have hts : ∀ w ∈ gT, w.before _ s = true := fun w h => hts0 w (List.mem_cons_of_mem _ h)
  have hown : s.vm.findClass RX1 = some m.cls := findClass_of_methodNamed B0.named
  have hlocks := B0.notSynchronized
  subst hsz
  have hD := hD0.self (sz := s.heap.size)
  generalize hAe : va_A ws s.heap.size = A at hD ⊢
  have hA : ∀ q : Nat, s.heap.size ≤ q → A q := fun q h => by rw [← hAe]; exact Or.inr h
  have hw : tW (dC, dI) tys κ B A s ws s.heap [] := ⟨hK, hP, hD, va_S.rf, hT⟩
  have hM : Sm [] [] κ ws ws := Sm.rf
  clear hP hK hD hD0 hts0
  have l_a1 := i32_lo a1
  have h_a1 := i32_hi a1
  have hl := lv_entry ([.ref a0, .int a1]) (n := 2) (Nat.le_of_ble_eq_true rfl)
  rw [lg_entry_eq]
  generalize (lg_sl ([.ref a0, .int a1]) ++ List.replicate (2 - (lg_sl ([.ref a0, .int a1])).length) Slot.unset).toArray = ls at hl ⊢
  have hl : lv_has ls 2 [(0, .ref a0), (1, .int a1)] := hl
  refine t_start (fun QQ hQ => ?_)
  refine lv_iload_n hx hb dX1_isFull_0 rfl (lv_at hl 1 rfl) ?_
  rcases Classical.em (a1.toInt = 1) with c_1_0 | c_1_0
  · refine lv_tableIn (tgt := 32) hx hb dX1_isFull_1 (by omega) (by omega) (by rw [c_1_0]; rfl) (by decide) ?_
    refine lv_aload_n hx hb dX1_isFull_32 rfl (lv_at hl 0 rfl) ?_
    refine t_getk (ci := 1) (C := RX1) (T := TX1) (N := 1) hx hb hts iX1 hown hw rfl 0 (by decide) (hts _ tw_156) (fun _ h9 => h9) dX1_isFull_33 f_a0_X1_0 ?_
    refine t_getk (ci := 0) (C := RX0) (T := TX0) (N := 16) hx hb hts iX0 hown hw rfl 3 (by decide) (hts _ tw_79) (fun _ h9 => h9) dX1_isFull_36 f_f0_X0_3 ?_
    refine lv_bipush (v := 6) hx hb dX1_isFull_39 (by decide) ?_
    refine lv_icmp_lt (tgt := 48) hx hb dX1_isFull_41 (by decide) (fun c_41 => ?_) (fun c_41 => ?_)
    · simp only [fa_lt, fa_le, fa_eq, li_6] at c_41
      refine lv_iconst (v := 0) hx hb dX1_isFull_48 (by decide) ?_
      rw [hQ]
      refine W.widen (k := 0) (n := 0) (Nat.le_refl _) (Nat.le_refl _) ?_
      exact W.zret (v := 0) hx hb hr rfl (fun t ht hW => ⟨⟨0, ws, rfl, ⟨(by decide), (by decide), hw.2.2.2.2, hM, (by have := li_0; omega), (by have := li_0; omega)⟩, by rw [ht]; exact hw.2.1, va_K.moved hW.alike hw.1, hw.2.2.1⟩, hw.2.2.2.1.F ht⟩) hw.2.2.2.1.2.2 dX1_isFull_49
    · simp only [fa_lt, fa_le, fa_eq, li_6] at c_41
      refine lv_iconst (v := 1) hx hb dX1_isFull_44 (by decide) ?_
      refine lv_goto (tgt := 49) hx hb dX1_isFull_45 (by decide) ?_
      rw [hQ]
      refine W.widen (k := 0) (n := 0) (Nat.le_refl _) (Nat.le_refl _) ?_
      exact W.zret (v := 1) hx hb hr rfl (fun t ht hW => ⟨⟨1, ws, rfl, ⟨(by decide), (by decide), hw.2.2.2.2, hM, (by have := li_1; omega), (by have := li_1; omega)⟩, by rw [ht]; exact hw.2.1, va_K.moved hW.alike hw.1, hw.2.2.1⟩, hw.2.2.2.1.F ht⟩) hw.2.2.2.1.2.2 dX1_isFull_49
  rcases Classical.em (a1.toInt = 2) with c_1_1 | c_1_1
  · refine lv_tableIn (tgt := 85) hx hb dX1_isFull_1 (by omega) (by omega) (by rw [c_1_1]; rfl) (by decide) ?_
    refine lv_iconst (v := 0) hx hb dX1_isFull_85 (by decide) ?_
    rw [hQ]
    refine W.widen (k := 0) (n := 0) (Nat.le_refl _) (Nat.le_refl _) ?_
    exact W.zret (v := 0) hx hb hr rfl (fun t ht hW => ⟨⟨0, ws, rfl, ⟨(by decide), (by decide), hw.2.2.2.2, hM, (by have := li_0; omega), (by have := li_0; omega)⟩, by rw [ht]; exact hw.2.1, va_K.moved hW.alike hw.1, hw.2.2.1⟩, hw.2.2.2.1.F ht⟩) hw.2.2.2.1.2.2 dX1_isFull_86
  rcases Classical.em (a1.toInt = 3) with c_1_2 | c_1_2
  · refine lv_tableIn (tgt := 50) hx hb dX1_isFull_1 (by omega) (by omega) (by rw [c_1_2]; rfl) (by decide) ?_
    refine lv_aload_n hx hb dX1_isFull_50 rfl (lv_at hl 0 rfl) ?_
    refine t_getk (ci := 1) (C := RX1) (T := TX1) (N := 1) hx hb hts iX1 hown hw rfl 0 (by decide) (hts _ tw_156) (fun _ h9 => h9) dX1_isFull_51 f_a0_X1_0 ?_
    refine t_getk (ci := 0) (C := RX0) (T := TX0) (N := 16) hx hb hts iX0 hown hw rfl 4 (by decide) (hts _ tw_83) (fun _ h9 => h9) dX1_isFull_54 f_f0_X0_4 ?_
    refine lv_iconst (v := 4) hx hb dX1_isFull_57 (by decide) ?_
    refine lv_icmp_lt (tgt := 65) hx hb dX1_isFull_58 (by decide) (fun c_58 => ?_) (fun c_58 => ?_)
    · simp only [fa_lt, fa_le, fa_eq, li_4] at c_58
      refine lv_iconst (v := 0) hx hb dX1_isFull_65 (by decide) ?_
      rw [hQ]
      refine W.widen (k := 0) (n := 0) (Nat.le_refl _) (Nat.le_refl _) ?_
      exact W.zret (v := 0) hx hb hr rfl (fun t ht hW => ⟨⟨0, ws, rfl, ⟨(by decide), (by decide), hw.2.2.2.2, hM, (by have := li_0; omega), (by have := li_0; omega)⟩, by rw [ht]; exact hw.2.1, va_K.moved hW.alike hw.1, hw.2.2.1⟩, hw.2.2.2.1.F ht⟩) hw.2.2.2.1.2.2 dX1_isFull_66
    · simp only [fa_lt, fa_le, fa_eq, li_4] at c_58
      refine lv_iconst (v := 1) hx hb dX1_isFull_61 (by decide) ?_
      refine lv_goto (tgt := 66) hx hb dX1_isFull_62 (by decide) ?_
      rw [hQ]
      refine W.widen (k := 0) (n := 0) (Nat.le_refl _) (Nat.le_refl _) ?_
      exact W.zret (v := 1) hx hb hr rfl (fun t ht hW => ⟨⟨1, ws, rfl, ⟨(by decide), (by decide), hw.2.2.2.2, hM, (by have := li_1; omega), (by have := li_1; omega)⟩, by rw [ht]; exact hw.2.1, va_K.moved hW.alike hw.1, hw.2.2.1⟩, hw.2.2.2.1.F ht⟩) hw.2.2.2.1.2.2 dX1_isFull_66
  rcases Classical.em (a1.toInt = 4) with c_1_3 | c_1_3
  · refine lv_tableIn (tgt := 67) hx hb dX1_isFull_1 (by omega) (by omega) (by rw [c_1_3]; rfl) (by decide) ?_
    refine lv_aload_n hx hb dX1_isFull_67 rfl (lv_at hl 0 rfl) ?_
    refine t_getk (ci := 1) (C := RX1) (T := TX1) (N := 1) hx hb hts iX1 hown hw rfl 0 (by decide) (hts _ tw_156) (fun _ h9 => h9) dX1_isFull_68 f_a0_X1_0 ?_
    refine t_getk (ci := 0) (C := RX0) (T := TX0) (N := 16) hx hb hts iX0 hown hw rfl 5 (by decide) (hts _ tw_87) (fun _ h9 => h9) dX1_isFull_71 f_f0_X0_5 ?_
    refine lv_bipush (v := 6) hx hb dX1_isFull_74 (by decide) ?_
    refine lv_icmp_lt (tgt := 83) hx hb dX1_isFull_76 (by decide) (fun c_76 => ?_) (fun c_76 => ?_)
    · simp only [fa_lt, fa_le, fa_eq, li_6] at c_76
      refine lv_iconst (v := 0) hx hb dX1_isFull_83 (by decide) ?_
      rw [hQ]
      refine W.widen (k := 0) (n := 0) (Nat.le_refl _) (Nat.le_refl _) ?_
      exact W.zret (v := 0) hx hb hr rfl (fun t ht hW => ⟨⟨0, ws, rfl, ⟨(by decide), (by decide), hw.2.2.2.2, hM, (by have := li_0; omega), (by have := li_0; omega)⟩, by rw [ht]; exact hw.2.1, va_K.moved hW.alike hw.1, hw.2.2.1⟩, hw.2.2.2.1.F ht⟩) hw.2.2.2.1.2.2 dX1_isFull_84
    · simp only [fa_lt, fa_le, fa_eq, li_6] at c_76
      refine lv_iconst (v := 1) hx hb dX1_isFull_79 (by decide) ?_
      refine lv_goto (tgt := 84) hx hb dX1_isFull_80 (by decide) ?_
      rw [hQ]
      refine W.widen (k := 0) (n := 0) (Nat.le_refl _) (Nat.le_refl _) ?_
      exact W.zret (v := 1) hx hb hr rfl (fun t ht hW => ⟨⟨1, ws, rfl, ⟨(by decide), (by decide), hw.2.2.2.2, hM, (by have := li_1; omega), (by have := li_1; omega)⟩, by rw [ht]; exact hw.2.1, va_K.moved hW.alike hw.1, hw.2.2.1⟩, hw.2.2.2.1.F ht⟩) hw.2.2.2.1.2.2 dX1_isFull_84
  · refine lv_tableOut (tgt := 85) hx hb dX1_isFull_1 (by omega) (by decide) ?_
    refine lv_iconst (v := 0) hx hb dX1_isFull_85 (by decide) ?_
    rw [hQ]
    refine W.widen (k := 0) (n := 0) (Nat.le_refl _) (Nat.le_refl _) ?_
    exact W.zret (v := 0) hx hb hr rfl (fun t ht hW => ⟨⟨0, ws, rfl, ⟨(by decide), (by decide), hw.2.2.2.2, hM, (by have := li_0; omega), (by have := li_0; omega)⟩, by rw [ht]; exact hw.2.1, va_K.moved hW.alike hw.1, hw.2.2.1⟩, hw.2.2.2.1.F ht⟩) hw.2.2.2.1.2.2 dX1_isFull_86
set_option maxHeartbeats 4000000 in
set_option maxRecDepth 100000 in
theorem t_X9_fail (l : Launch) (dC : Nat → ClassId) (dI : Nat → Nat → Nat) (tys : List (ClassId × FieldType)) (κ : tK) (B : Nat) (ws : va_W) (hT : Ty κ tys B ws) (a0 : Nat) (k_a0 : κ a0 = some 9) (a1 : Int32) (l_a1 : 0 ≤ a1.toInt) (h_a1 : a1.toInt ≤ 400) (a2 : Int32) (l_a2 : 0 ≤ a2.toInt) (h_a2 : a2.toInt ≤ 4) (sz : Nat) : Met l yX9_fail (ws_u yX9_fail cX9_fail 3 none) ({ frames := 0, cells := 0, slots := 0, locals := 0 }) (va_Pc [.ref a0, .int a1, .int a2] (cPre (dC, dI) tys ws sz)) (va_Qv (fun (w : va_W) => Ty κ tys B w ∧ Sm [(9, 3)] [] κ ws w ∧ (∃ (xf : Int32), 1 ≤ xf.toInt ∧ xf.toInt ≤ 3205 ∧ fld w a0 9 3 (.int xf))) (fun w t => cPost (dC, dI) tys w (va_A ws sz) t) (va_A ws sz)) 0 0 (va_A ws sz) := by
  refine Met.ofW (cc := cX9_fail) (maxL := 3) (ret := none) (by decide) rfl ?_
  intro p e s m args below meth c s₁ B0 hml hv
  obtain ⟨rfl, hsz, hP, hK, hD0, hE⟩ := hv
  have hx := B0.exec
  have hb := B0.bytes
  have hr := B0.returns
  have hts0 := atoms_spec (ws := ws_u yX9_fail cX9_fail 3 none) B0.pre
  have hts : ∀ w ∈ gT, w.before _ s = true := fun w h => hts0 w (List.mem_cons_of_mem _ h)
  have hown : s.vm.findClass RX9 = some m.cls := findClass_of_methodNamed B0.named
  have hlocks := B0.notSynchronized
  subst hsz
  have hD := hD0.self (sz := s.heap.size)
  generalize hAe : va_A ws s.heap.size = A at hD ⊢
  have hA : ∀ q : Nat, s.heap.size ≤ q → A q := fun q h => by rw [← hAe]; exact Or.inr h
  have hw : tW (dC, dI) tys κ B A s ws s.heap [] := ⟨hK, hP, hD, va_S.rf, hT⟩
  have hM : Sm [(9, 3)] [] κ ws ws := Sm.rf
  clear hP hK hD hD0 hts0
  have hl := lv_entry ([.ref a0, .int a1, .int a2]) (n := 3) (Nat.le_of_ble_eq_true rfl)
  rw [lg_entry_eq]
  generalize (lg_sl ([.ref a0, .int a1, .int a2]) ++ List.replicate (3 - (lg_sl ([.ref a0, .int a1, .int a2])).length) Slot.unset).toArray = ls at hl ⊢
  have hl : lv_has ls 3 [(0, .ref a0), (1, .int a1), (2, .int a2)] := hl
  refine t_start (fun QQ hQ => ?_)
  refine lv_aload_n hx hb dX9_fail_0 rfl (lv_at hl 0 rfl) ?_
  refine t_geti (ci := 9) (C := RX9) (T := TX9) (N := 4) hx hb hts iX9 hown hw k_a0 rfl rfl rfl 3 (by decide) (hts _ tw_44) (fun _ h9 => h9) dX9_fail_1 rfl (fun v1 l_v1 h_v1 f_a0_X9_3 => ?_)
  have l_v1 : 0 ≤ v1.toInt := l_v1
  have h_v1 : v1.toInt ≤ 3205 := h_v1
  refine lv_if_ne (tgt := 19) hx hb dX9_fail_4 (by decide) (fun c_4 => ?_) (fun c_4 => ?_)
  · simp only [fa_lt, fa_le, fa_eq, li_0] at c_4
    rw [hQ]
    refine W.widen (k := 0) (n := 0) (Nat.le_refl _) (Nat.le_refl _) ?_
    exact W.vret hx hb hr (fun t ht hW => ⟨⟨ws, rfl, ⟨hw.2.2.2.2, hM, ⟨v1, (by omega), (by omega), f_a0_X9_3⟩⟩, by rw [ht]; exact hw.2.1, va_K.moved hW.alike hw.1, hw.2.2.1⟩, hw.2.2.2.1.F ht⟩) hw.2.2.2.1.2.2 dX9_fail_19
  · simp only [fa_lt, fa_le, fa_eq, li_0] at c_4
    refine lv_aload_n hx hb dX9_fail_7 rfl (lv_at hl 0 rfl) ?_
    refine lv_iconst (v := 1) hx hb dX9_fail_8 (by decide) ?_
    refine lv_bipush (v := 8) hx hb dX9_fail_9 (by decide) ?_
    refine lv_iload_n hx hb dX9_fail_11 rfl (lv_at hl 1 rfl) ?_
    refine lv_imul hx hb dX9_fail_12 ?_
    refine lv_topi (fun v12 e_v12 => ?_)
    have e_v12 : v12.toInt = 8 * a1.toInt := ml_i e_v12 li_8 rfl (by omega) (by omega)
    refine lv_iadd hx hb dX9_fail_13 ?_
    refine lv_topi (fun v13 e_v13 => ?_)
    have e_v13 : v13.toInt = 1 + v12.toInt := ad_i e_v13 li_1 rfl (by omega) (by omega)
    refine lv_iload_n hx hb dX9_fail_14 rfl (lv_at hl 2 rfl) ?_
    refine lv_iadd hx hb dX9_fail_15 ?_
    refine lv_topi (fun v15 e_v15 => ?_)
    have e_v15 : v15.toInt = v13.toInt + a2.toInt := ad_i e_v15 rfl rfl (by omega) (by omega)
    refine t_put (ci := 9) (C := RX9) (T := TX9) (N := 4) (v := .int v15) hx hb hts iX9 tyX9 tyX9_ok nmX9 hown hw k_a0 rfl rfl rfl 3 (by decide) (hts _ tw_44) (fun _ h9 => h9) rfl (tyX9_ok 3 (by decide)) rfl rfl (okV.int rfl (by omega) (by omega)) dX9_fail_16 (fun w_1 H locs hw u => ?_)
    have hM := hM.up1 u (by decide)
    have f_a0_X9_3 := u.2.2
    rw [hQ]
    refine W.widen (k := 0) (n := 0) (Nat.le_refl _) (Nat.le_refl _) ?_
    exact W.vret hx hb hr (fun t ht hW => ⟨⟨w_1, rfl, ⟨hw.2.2.2.2, hM, ⟨v15, (by omega), (by omega), f_a0_X9_3⟩⟩, by rw [ht]; exact hw.2.1, va_K.moved hW.alike hw.1, hw.2.2.1⟩, hw.2.2.2.1.F ht⟩) hw.2.2.2.1.2.2 dX9_fail_19
set_option maxHeartbeats 4000000 in
set_option maxRecDepth 100000 in
theorem t_X9_isDigitAt (l : Launch) (dC : Nat → ClassId) (dI : Nat → Nat → Nat) (tys : List (ClassId × FieldType)) (κ : tK) (B : Nat) (ws : va_W) (hT : Ty κ tys B ws) (a0 : Nat) (k_a0 : κ a0 = some 9) (a1 : Int32) (l_a1 : 0 ≤ a1.toInt) (h_a1 : a1.toInt ≤ 400) (sz : Nat) : Met l yX9_isDigitAt (ws_u yX9_isDigitAt cX9_isDigitAt 2 (some .boolean)) ({ frames := 0, cells := 0, slots := 0, locals := 0 }) (va_Pc [.ref a0, .int a1] (cPre (dC, dI) tys ws sz)) (va_Qi (fun (r : Int32) (w : va_W) => 0 ≤ r.toInt ∧ r.toInt ≤ 1 ∧ Ty κ tys B w ∧ Sm [] [] κ ws w ∧ (r.toInt = 0 ∨ a1.toInt ≤ 399)) (fun w t => cPost (dC, dI) tys w (va_A ws sz) t) (va_A ws sz)) 0 0 (va_A ws sz) := by
  refine Met.ofW (cc := cX9_isDigitAt) (maxL := 2) (ret := (some .boolean)) (by decide) rfl ?_
  intro p e s m args below meth c s₁ B0 hml hv
  obtain ⟨rfl, hsz, hP, hK, hD0, hE⟩ := hv
  have hx := B0.exec
  have hb := B0.bytes
  have hr := B0.returns
  have hts0 := atoms_spec (ws := ws_u yX9_isDigitAt cX9_isDigitAt 2 (some .boolean)) B0.pre
  have hts : ∀ w ∈ gT, w.before _ s = true := fun w h => hts0 w (List.mem_cons_of_mem _ h)
  have hown : s.vm.findClass RX9 = some m.cls := findClass_of_methodNamed B0.named
  have hlocks := B0.notSynchronized
  subst hsz
  have hD := hD0.self (sz := s.heap.size)
  generalize hAe : va_A ws s.heap.size = A at hD ⊢
  have hA : ∀ q : Nat, s.heap.size ≤ q → A q := fun q h => by rw [← hAe]; exact Or.inr h
  have hw : tW (dC, dI) tys κ B A s ws s.heap [] := ⟨hK, hP, hD, va_S.rf, hT⟩
  have hM : Sm [] [] κ ws ws := Sm.rf
  clear hP hK hD hD0 hts0
  have hl := lv_entry ([.ref a0, .int a1]) (n := 2) (Nat.le_of_ble_eq_true rfl)
  rw [lg_entry_eq]
  generalize (lg_sl ([.ref a0, .int a1]) ++ List.replicate (2 - (lg_sl ([.ref a0, .int a1])).length) Slot.unset).toArray = ls at hl ⊢
  have hl : lv_has ls 2 [(0, .ref a0), (1, .int a1)] := hl
  refine t_start (fun QQ hQ => ?_)
  refine lv_aload_n hx hb dX9_isDigitAt_0 rfl (lv_at hl 0 rfl) ?_
  refine t_geti (ci := 9) (C := RX9) (T := TX9) (N := 4) hx hb hts iX9 hown hw k_a0 rfl rfl rfl 3 (by decide) (hts _ tw_44) (fun _ h9 => h9) dX9_isDigitAt_1 rfl (fun v1 l_v1 h_v1 f_a0_X9_3 => ?_)
  have l_v1 : 0 ≤ v1.toInt := l_v1
  have h_v1 : v1.toInt ≤ 3205 := h_v1
  refine lv_if_ne (tgt := 41) hx hb dX9_isDigitAt_4 (by decide) (fun c_4 => ?_) (fun c_4 => ?_)
  · simp only [fa_lt, fa_le, fa_eq, li_0] at c_4
    refine lv_iconst (v := 0) hx hb dX9_isDigitAt_41 (by decide) ?_
    rw [hQ]
    refine W.widen (k := 0) (n := 0) (Nat.le_refl _) (Nat.le_refl _) ?_
    exact W.zret (v := 0) hx hb hr rfl (fun t ht hW => ⟨⟨0, ws, rfl, ⟨(by decide), (by decide), hw.2.2.2.2, hM, (by have := li_0; omega)⟩, by rw [ht]; exact hw.2.1, va_K.moved hW.alike hw.1, hw.2.2.1⟩, hw.2.2.2.1.F ht⟩) hw.2.2.2.1.2.2 dX9_isDigitAt_42
  · simp only [fa_lt, fa_le, fa_eq, li_0] at c_4
    refine lv_iload_n hx hb dX9_isDigitAt_7 rfl (lv_at hl 1 rfl) ?_
    refine lv_aload_n hx hb dX9_isDigitAt_8 rfl (lv_at hl 0 rfl) ?_
    refine t_geti (ci := 9) (C := RX9) (T := TX9) (N := 4) hx hb hts iX9 hown hw k_a0 rfl rfl rfl 1 (by decide) (hts _ tw_37) (fun _ h9 => h9) dX9_isDigitAt_9 rfl (fun v9 l_v9 h_v9 f_a0_X9_1 => ?_)
    have l_v9 : 0 ≤ v9.toInt := l_v9
    have h_v9 : v9.toInt ≤ 400 := h_v9
    refine lv_icmp_ge (tgt := 41) hx hb dX9_isDigitAt_12 (by decide) (fun c_12 => ?_) (fun c_12 => ?_)
    · simp only [fa_lt, fa_le, fa_eq] at c_12
      refine lv_iconst (v := 0) hx hb dX9_isDigitAt_41 (by decide) ?_
      rw [hQ]
      refine W.widen (k := 0) (n := 0) (Nat.le_refl _) (Nat.le_refl _) ?_
      exact W.zret (v := 0) hx hb hr rfl (fun t ht hW => ⟨⟨0, ws, rfl, ⟨(by decide), (by decide), hw.2.2.2.2, hM, (by have := li_0; omega)⟩, by rw [ht]; exact hw.2.1, va_K.moved hW.alike hw.1, hw.2.2.1⟩, hw.2.2.2.1.F ht⟩) hw.2.2.2.1.2.2 dX9_isDigitAt_42
    · simp only [fa_lt, fa_le, fa_eq] at c_12
      refine lv_aload_n hx hb dX9_isDigitAt_15 rfl (lv_at hl 0 rfl) ?_
      refine t_getr (k1 := 49) (ci := 9) (C := RX9) (T := TX9) (N := 4) hx hb hts iX9 hown hw k_a0 rfl rfl rfl 0 (by decide) (hts _ tw_36) (fun _ h9 => h9) dX9_isDigitAt_16 rfl (fun v16 k_v16 f_a0_X9_0 => ?_)
      refine lv_iload_n hx hb dX9_isDigitAt_19 rfl (lv_at hl 1 rfl) ?_
      refine t_bald hx hb hw k_v16 rfl rfl (by omega) (show a1.toInt < 400 by omega) dX9_isDigitAt_20 (fun v20 r_v20 s_v20 q_v20 => ?_)
      have l_v20 := i32_lo v20
      have h_v20 := i32_hi v20
      refine lv_bipush (v := 48) hx hb dX9_isDigitAt_21 (by decide) ?_
      refine lv_icmp_lt (tgt := 41) hx hb dX9_isDigitAt_23 (by decide) (fun c_23 => ?_) (fun c_23 => ?_)
      · simp only [fa_lt, fa_le, fa_eq, li_48] at c_23
        refine lv_iconst (v := 0) hx hb dX9_isDigitAt_41 (by decide) ?_
        rw [hQ]
        refine W.widen (k := 0) (n := 0) (Nat.le_refl _) (Nat.le_refl _) ?_
        exact W.zret (v := 0) hx hb hr rfl (fun t ht hW => ⟨⟨0, ws, rfl, ⟨(by decide), (by decide), hw.2.2.2.2, hM, (by have := li_0; omega)⟩, by rw [ht]; exact hw.2.1, va_K.moved hW.alike hw.1, hw.2.2.1⟩, hw.2.2.2.1.F ht⟩) hw.2.2.2.1.2.2 dX9_isDigitAt_42
      · simp only [fa_lt, fa_le, fa_eq, li_48] at c_23
        refine lv_aload_n hx hb dX9_isDigitAt_26 rfl (lv_at hl 0 rfl) ?_
        refine t_getk (ci := 9) (C := RX9) (T := TX9) (N := 4) hx hb hts iX9 hown hw rfl 0 (by decide) (hts _ tw_36) (fun _ h9 => h9) dX9_isDigitAt_27 f_a0_X9_0 ?_
        refine lv_iload_n hx hb dX9_isDigitAt_30 rfl (lv_at hl 1 rfl) ?_
        refine t_bald hx hb hw k_v16 rfl rfl (by omega) (show a1.toInt < 400 by omega) dX9_isDigitAt_31 (fun v31 r_v31 s_v31 q_v31 => ?_)
        have l_v31 := i32_lo v31
        have h_v31 := i32_hi v31
        refine lv_bipush (v := 57) hx hb dX9_isDigitAt_32 (by decide) ?_
        refine lv_icmp_gt (tgt := 41) hx hb dX9_isDigitAt_34 (by decide) (fun c_34 => ?_) (fun c_34 => ?_)
        · simp only [fa_lt, fa_le, fa_eq, li_57] at c_34
          refine lv_iconst (v := 0) hx hb dX9_isDigitAt_41 (by decide) ?_
          rw [hQ]
          refine W.widen (k := 0) (n := 0) (Nat.le_refl _) (Nat.le_refl _) ?_
          exact W.zret (v := 0) hx hb hr rfl (fun t ht hW => ⟨⟨0, ws, rfl, ⟨(by decide), (by decide), hw.2.2.2.2, hM, (by have := li_0; omega)⟩, by rw [ht]; exact hw.2.1, va_K.moved hW.alike hw.1, hw.2.2.1⟩, hw.2.2.2.1.F ht⟩) hw.2.2.2.1.2.2 dX9_isDigitAt_42
        · simp only [fa_lt, fa_le, fa_eq, li_57] at c_34
          refine lv_iconst (v := 1) hx hb dX9_isDigitAt_37 (by decide) ?_
          refine lv_goto (tgt := 42) hx hb dX9_isDigitAt_38 (by decide) ?_
          rw [hQ]
          refine W.widen (k := 0) (n := 0) (Nat.le_refl _) (Nat.le_refl _) ?_
          exact W.zret (v := 1) hx hb hr rfl (fun t ht hW => ⟨⟨1, ws, rfl, ⟨(by decide), (by decide), hw.2.2.2.2, hM, (by have := li_1; omega)⟩, by rw [ht]; exact hw.2.1, va_K.moved hW.alike hw.1, hw.2.2.1⟩, hw.2.2.2.1.F ht⟩) hw.2.2.2.1.2.2 dX9_isDigitAt_42
set_option maxHeartbeats 4000000 in
set_option maxRecDepth 100000 in
theorem t_X9_moveTo (l : Launch) (dC : Nat → ClassId) (dI : Nat → Nat → Nat) (tys : List (ClassId × FieldType)) (κ : tK) (B : Nat) (ws : va_W) (hT : Ty κ tys B ws) (a0 : Nat) (k_a0 : κ a0 = some 9) (a1 : Int32) (l_a1 : 0 ≤ a1.toInt) (h_a1 : a1.toInt ≤ 400) (sz : Nat) : Met l yX9_moveTo (ws_u yX9_moveTo cX9_moveTo 2 none) ({ frames := 0, cells := 0, slots := 0, locals := 0 }) (va_Pc [.ref a0, .int a1] (cPre (dC, dI) tys ws sz)) (va_Qv (fun (w : va_W) => Ty κ tys B w ∧ Sm [(9, 2)] [] κ ws w) (fun w t => cPost (dC, dI) tys w (va_A ws sz) t) (va_A ws sz)) 0 0 (va_A ws sz) := by
  refine Met.ofW (cc := cX9_moveTo) (maxL := 2) (ret := none) (by decide) rfl ?_
  intro p e s m args below meth c s₁ B0 hml hv
  obtain ⟨rfl, hsz, hP, hK, hD0, hE⟩ := hv
  have hx := B0.exec
  have hb := B0.bytes
  have hr := B0.returns
  have hts0 := atoms_spec (ws := ws_u yX9_moveTo cX9_moveTo 2 none) B0.pre
  have hts : ∀ w ∈ gT, w.before _ s = true := fun w h => hts0 w (List.mem_cons_of_mem _ h)
  have hown : s.vm.findClass RX9 = some m.cls := findClass_of_methodNamed B0.named
  have hlocks := B0.notSynchronized
  subst hsz
  have hD := hD0.self (sz := s.heap.size)
  generalize hAe : va_A ws s.heap.size = A at hD ⊢
  have hA : ∀ q : Nat, s.heap.size ≤ q → A q := fun q h => by rw [← hAe]; exact Or.inr h
  have hw : tW (dC, dI) tys κ B A s ws s.heap [] := ⟨hK, hP, hD, va_S.rf, hT⟩
  have hM : Sm [(9, 2)] [] κ ws ws := Sm.rf
  clear hP hK hD hD0 hts0
  have hl := lv_entry ([.ref a0, .int a1]) (n := 2) (Nat.le_of_ble_eq_true rfl)
  rw [lg_entry_eq]
  generalize (lg_sl ([.ref a0, .int a1]) ++ List.replicate (2 - (lg_sl ([.ref a0, .int a1])).length) Slot.unset).toArray = ls at hl ⊢
  have hl : lv_has ls 2 [(0, .ref a0), (1, .int a1)] := hl
  refine t_start (fun QQ hQ => ?_)
  refine lv_aload_n hx hb dX9_moveTo_0 rfl (lv_at hl 0 rfl) ?_
  refine lv_iload_n hx hb dX9_moveTo_1 rfl (lv_at hl 1 rfl) ?_
  refine t_put (ci := 9) (C := RX9) (T := TX9) (N := 4) (v := .int a1) hx hb hts iX9 tyX9 tyX9_ok nmX9 hown hw k_a0 rfl rfl rfl 2 (by decide) (hts _ tw_41) (fun _ h9 => h9) rfl (tyX9_ok 2 (by decide)) rfl rfl (okV.int rfl (by omega) (by omega)) dX9_moveTo_2 (fun w_1 H locs hw u => ?_)
  have hM := hM.up1 u (by decide)
  have f_a0_X9_2 := u.2.2
  have J5 : ∀ (n : Nat) (H : Heap) (locs : List Loc) (ls : Array Slot), (∃ (w5 : va_W) (p5_m_a0_X9_2 : Int32), tW (dC, dI) tys κ B A s w5 H locs ∧ Sm [(9, 2)] [] κ ws w5 ∧ 0 ≤ p5_m_a0_X9_2.toInt ∧ p5_m_a0_X9_2.toInt ≤ 400 ∧ fld w5 a0 9 2 (.int p5_m_a0_X9_2) ∧ lv_has ls 2 [(0, .ref a0), (1, .int a1)] ∧ (400 - p5_m_a0_X9_2.toInt).toNat = n) → W p l e (headSpec (ws_u yX9_moveTo cX9_moveTo 2 none) ({ frames := 0, cells := 0, slots := 0, locals := 0 })).room s m ([.ref a0, .int a1] : List Value).toArray below meth c H locs 0 0 QQ (F0 m 5 ls []) := by
    refine loopT _ ?_
    intro n_5 H locs ls hI ih_5
    obtain ⟨w5, p5_m_a0_X9_2, hw, hM, l_p5_m_a0_X9_2, h_p5_m_a0_X9_2, f_a0_X9_2, hl, hn_5⟩ := hI
    refine lv_aload_n hx hb dX9_moveTo_5 rfl (lv_at hl 0 rfl) ?_
    refine t_getk (ci := 9) (C := RX9) (T := TX9) (N := 4) hx hb hts iX9 hown hw rfl 2 (by decide) (hts _ tw_41) (fun _ h9 => h9) dX9_moveTo_6 f_a0_X9_2 ?_
    refine lv_aload_n hx hb dX9_moveTo_9 rfl (lv_at hl 0 rfl) ?_
    refine t_geti (ci := 9) (C := RX9) (T := TX9) (N := 4) hx hb hts iX9 hown hw k_a0 rfl rfl rfl 1 (by decide) (hts _ tw_37) (fun _ h9 => h9) dX9_moveTo_10 rfl (fun v10 l_v10 h_v10 f_a0_X9_1 => ?_)
    have l_v10 : 0 ≤ v10.toInt := l_v10
    have h_v10 : v10.toInt ≤ 400 := h_v10
    refine lv_icmp_ge (tgt := 43) hx hb dX9_moveTo_13 (by decide) (fun c_13 => ?_) (fun c_13 => ?_)
    · simp only [fa_lt, fa_le, fa_eq] at c_13
      rw [hQ]
      refine W.widen (k := 0) (n := 0) (Nat.le_refl _) (Nat.le_refl _) ?_
      exact W.vret hx hb hr (fun t ht hW => ⟨⟨w5, rfl, ⟨hw.2.2.2.2, hM⟩, by rw [ht]; exact hw.2.1, va_K.moved hW.alike hw.1, hw.2.2.1⟩, hw.2.2.2.1.F ht⟩) hw.2.2.2.1.2.2 dX9_moveTo_43
    · simp only [fa_lt, fa_le, fa_eq] at c_13
      refine lv_aload_n hx hb dX9_moveTo_16 rfl (lv_at hl 0 rfl) ?_
      refine t_getr (k1 := 49) (ci := 9) (C := RX9) (T := TX9) (N := 4) hx hb hts iX9 hown hw k_a0 rfl rfl rfl 0 (by decide) (hts _ tw_36) (fun _ h9 => h9) dX9_moveTo_17 rfl (fun v17 k_v17 f_a0_X9_0 => ?_)
      refine lv_aload_n hx hb dX9_moveTo_20 rfl (lv_at hl 0 rfl) ?_
      refine t_getk (ci := 9) (C := RX9) (T := TX9) (N := 4) hx hb hts iX9 hown hw rfl 2 (by decide) (hts _ tw_41) (fun _ h9 => h9) dX9_moveTo_21 f_a0_X9_2 ?_
      refine t_bald hx hb hw k_v17 rfl rfl (by omega) (show p5_m_a0_X9_2.toInt < 400 by omega) dX9_moveTo_24 (fun v24 r_v24 s_v24 q_v24 => ?_)
      have l_v24 := i32_lo v24
      have h_v24 := i32_hi v24
      refine lv_bipush (v := 32) hx hb dX9_moveTo_25 (by decide) ?_
      refine lv_icmp_ne (tgt := 43) hx hb dX9_moveTo_27 (by decide) (fun c_27 => ?_) (fun c_27 => ?_)
      · simp only [fa_lt, fa_le, fa_eq, li_32] at c_27
        rw [hQ]
        refine W.widen (k := 0) (n := 0) (Nat.le_refl _) (Nat.le_refl _) ?_
        exact W.vret hx hb hr (fun t ht hW => ⟨⟨w5, rfl, ⟨hw.2.2.2.2, hM⟩, by rw [ht]; exact hw.2.1, va_K.moved hW.alike hw.1, hw.2.2.1⟩, hw.2.2.2.1.F ht⟩) hw.2.2.2.1.2.2 dX9_moveTo_43
      · simp only [fa_lt, fa_le, fa_eq, li_32] at c_27
        refine lv_aload_n hx hb dX9_moveTo_30 rfl (lv_at hl 0 rfl) ?_
        refine lv_dup hx hb dX9_moveTo_31 rfl ?_
        refine t_getk (ci := 9) (C := RX9) (T := TX9) (N := 4) hx hb hts iX9 hown hw rfl 2 (by decide) (hts _ tw_41) (fun _ h9 => h9) dX9_moveTo_32 f_a0_X9_2 ?_
        refine lv_iconst (v := 1) hx hb dX9_moveTo_35 (by decide) ?_
        refine lv_iadd hx hb dX9_moveTo_36 ?_
        refine lv_topi (fun v36 e_v36 => ?_)
        have e_v36 : v36.toInt = p5_m_a0_X9_2.toInt + 1 := ad_i e_v36 rfl li_1 (by omega) (by omega)
        refine t_put (ci := 9) (C := RX9) (T := TX9) (N := 4) (v := .int v36) hx hb hts iX9 tyX9 tyX9_ok nmX9 hown hw k_a0 rfl rfl rfl 2 (by decide) (hts _ tw_41) (fun _ h9 => h9) rfl (tyX9_ok 2 (by decide)) rfl rfl (okV.int rfl (by omega) (by omega)) dX9_moveTo_37 (fun w_2 H locs hw u => ?_)
        have hM := hM.up1 u (by decide)
        have f_a0_X9_2 := u.2.2
        have f_a0_X9_1 := u.1 _ _ _ _ f_a0_X9_1 (Or.inr (Or.inr (by decide)))
        have f_a0_X9_0 := u.1 _ _ _ _ f_a0_X9_0 (Or.inr (Or.inr (by decide)))
        refine lv_goto (tgt := 5) hx hb dX9_moveTo_40 (by decide) ?_
        exact ih_5 _ _ _ _ (by omega) ⟨w_2, v36, hw, hM, (by omega), (by omega), f_a0_X9_2, (lv_sub hl [0, 1] rfl), rfl⟩
  exact J5 _ _ _ _ ⟨w_1, a1, hw, hM, (by omega), (by omega), f_a0_X9_2, (lv_sub hl [0, 1] rfl), rfl⟩
set_option maxHeartbeats 4000000 in
set_option maxRecDepth 100000 in
theorem t_X9_takeNumber (l : Launch) (dC : Nat → ClassId) (dI : Nat → Nat → Nat) (tys : List (ClassId × FieldType)) (κ : tK) (B : Nat) (ws : va_W) (hT : Ty κ tys B ws) (a0 : Nat) (k_a0 : κ a0 = some 9) (a1 : Int32) (l_a1 : 0 ≤ a1.toInt) (h_a1 : a1.toInt ≤ 20) (a2 : Int32) (l_a2 : (-1) ≤ a2.toInt) (h_a2 : a2.toInt ≤ 99999) (sz : Nat) : Met l yX9_takeNumber (ws_u yX9_takeNumber cX9_takeNumber 6 (some .int)) ({ frames := 1, cells := 0, slots := 0, locals := 22 }) (va_Pc [.ref a0, .int a1, .int a2] (cPre (dC, dI) tys ws sz)) (va_Qi (fun (r : Int32) (w : va_W) => 0 ≤ r.toInt ∧ r.toInt ≤ 99999 ∧ Ty κ tys B w ∧ Sm [(9, 2), (9, 3)] [] κ ws w ∧ (a1.toInt ≤ r.toInt ∧ (r.toInt ≤ a2.toInt ∨ r.toInt = a1.toInt))) (fun w t => cPost (dC, dI) tys w (va_A ws sz) t) (va_A ws sz)) 0 0 (va_A ws sz) := by
  refine Met.ofW (cc := cX9_takeNumber) (maxL := 6) (ret := (some .int)) (by decide) rfl ?_
  intro p e s m args below meth c s₁ B0 hml hv
  obtain ⟨rfl, hsz, hP, hK, hD0, hE⟩ := hv
  have hx := B0.exec
  have hb := B0.bytes
  have hr := B0.returns
  have hts0 := atoms_spec (ws := ws_u yX9_takeNumber cX9_takeNumber 6 (some .int)) B0.pre
  have hts : ∀ w ∈ gT, w.before _ s = true := fun w h => hts0 w (List.mem_cons_of_mem _ h)
  have hown : s.vm.findClass RX9 = some m.cls := findClass_of_methodNamed B0.named
  have hlocks := B0.notSynchronized
  subst hsz
  have hD := hD0.self (sz := s.heap.size)
  generalize hAe : va_A ws s.heap.size = A at hD ⊢
  have hA : ∀ q : Nat, s.heap.size ≤ q → A q := fun q h => by rw [← hAe]; exact Or.inr h
  have hw : tW (dC, dI) tys κ B A s ws s.heap [] := ⟨hK, hP, hD, va_S.rf, hT⟩
  have hM : Sm [(9, 2), (9, 3)] [] κ ws ws := Sm.rf
  clear hP hK hD hD0 hts0
  have hl := lv_entry ([.ref a0, .int a1, .int a2]) (n := 6) (Nat.le_of_ble_eq_true rfl)
  rw [lg_entry_eq]
  generalize (lg_sl ([.ref a0, .int a1, .int a2]) ++ List.replicate (6 - (lg_sl ([.ref a0, .int a1, .int a2])).length) Slot.unset).toArray = ls at hl ⊢
  have hl : lv_has ls 6 [(0, .ref a0), (1, .int a1), (2, .int a2)] := hl
  refine t_start (fun QQ hQ => ?_)
  refine lv_aload_n hx hb dX9_takeNumber_0 rfl (lv_at hl 0 rfl) ?_
  refine t_geti (ci := 9) (C := RX9) (T := TX9) (N := 4) hx hb hts iX9 hown hw k_a0 rfl rfl rfl 2 (by decide) (hts _ tw_41) (fun _ h9 => h9) dX9_takeNumber_1 rfl (fun v1 l_v1 h_v1 f_a0_X9_2 => ?_)
  have l_v1 : 0 ≤ v1.toInt := l_v1
  have h_v1 : v1.toInt ≤ 400 := h_v1
  refine lv_istore_n (lv' := [(3, .int v1), (0, .ref a0), (1, .int a1), (2, .int a2)]) hx hb dX9_takeNumber_4 rfl hl (by decide) rfl (fun ls hl => ?_)
  refine lv_iload_n hx hb dX9_takeNumber_5 rfl (lv_at hl 0 rfl) ?_
  refine lv_istore (lv' := [(4, .int v1), (3, .int v1), (0, .ref a0), (1, .int a1), (2, .int a2)]) hx hb dX9_takeNumber_6 hl (by decide) rfl (fun ls hl => ?_)
  refine lv_iconst (v := 0) hx hb dX9_takeNumber_8 (by decide) ?_
  refine lv_istore (lv' := [(5, .int 0), (4, .int v1), (3, .int v1), (0, .ref a0), (1, .int a1), (2, .int a2)]) hx hb dX9_takeNumber_9 hl (by decide) rfl (fun ls hl => ?_)
  have J11 : ∀ (n : Nat) (H : Heap) (locs : List Loc) (ls : Array Slot), (∃ (w11 : va_W) (p11_l4 : Int32) (p11_l5 : Int32), tW (dC, dI) tys κ B A s w11 H locs ∧ Sm [(9, 2), (9, 3)] [] κ ws w11 ∧ 0 ≤ p11_l4.toInt ∧ p11_l4.toInt ≤ 400 ∧ (-2147483648) ≤ p11_l5.toInt ∧ p11_l5.toInt ≤ 2147483647 ∧ fld w11 a0 9 2 (.int v1) ∧ lv_has ls 6 [(0, .ref a0), (1, .int a1), (2, .int a2), (3, .int v1), (4, .int p11_l4), (5, .int p11_l5)] ∧ (400 - p11_l4.toInt).toNat = n) → W p l e (headSpec (ws_u yX9_takeNumber cX9_takeNumber 6 (some .int)) ({ frames := 1, cells := 0, slots := 0, locals := 22 })).room s m ([.ref a0, .int a1, .int a2] : List Value).toArray below meth c H locs 0 0 QQ (F0 m 11 ls []) := by
    refine loopT _ ?_
    intro n_11 H locs ls hI ih_11
    obtain ⟨w11, p11_l4, p11_l5, hw, hM, l_p11_l4, h_p11_l4, l_p11_l5, h_p11_l5, f_a0_X9_2, hl, hn_11⟩ := hI
    refine lv_iload hx hb dX9_takeNumber_11 (lv_at hl 4 rfl) ?_
    refine lv_aload_n hx hb dX9_takeNumber_13 rfl (lv_at hl 0 rfl) ?_
    refine t_geti (ci := 9) (C := RX9) (T := TX9) (N := 4) hx hb hts iX9 hown hw k_a0 rfl rfl rfl 1 (by decide) (hts _ tw_37) (fun _ h9 => h9) dX9_takeNumber_14 rfl (fun v14 l_v14 h_v14 f_a0_X9_1 => ?_)
    have l_v14 : 0 ≤ v14.toInt := l_v14
    have h_v14 : v14.toInt ≤ 400 := h_v14
    have J61 : ∀ (H : Heap) (locs : List Loc) (ls : Array Slot) (w61 : va_W), tW (dC, dI) tys κ B A s w61 H locs → Sm [(9, 2), (9, 3)] [] κ ws w61 → fld w61 a0 9 1 (.int v14) → fld w61 a0 9 2 (.int v1) → lv_has ls 6 [(0, .ref a0), (1, .int a1), (2, .int a2), (3, .int v1), (4, .int p11_l4), (5, .int p11_l5)] → W p l e (headSpec (ws_u yX9_takeNumber cX9_takeNumber 6 (some .int)) ({ frames := 1, cells := 0, slots := 0, locals := 22 })).room s m ([.ref a0, .int a1, .int a2] : List Value).toArray below meth c H locs 0 0 QQ (F0 m 61 ls []) := by
      intro H locs ls w61 hw hM f_a0_X9_1 f_a0_X9_2 hl
      refine lv_iload hx hb dX9_takeNumber_61 (lv_at hl 4 rfl) ?_
      refine lv_iload_n hx hb dX9_takeNumber_63 rfl (lv_at hl 3 rfl) ?_
      refine lv_icmp_ne (tgt := 76) hx hb dX9_takeNumber_64 (by decide) (fun c_64 => ?_) (fun c_64 => ?_)
      · simp only [fa_lt, fa_le, fa_eq] at c_64
        refine lv_iload hx hb dX9_takeNumber_76 (lv_at hl 4 rfl) ?_
        refine lv_iload_n hx hb dX9_takeNumber_78 rfl (lv_at hl 3 rfl) ?_
        refine lv_isub hx hb dX9_takeNumber_79 ?_
        refine lv_topi (fun v79 e_v79 => ?_)
        have e_v79 : v79.toInt = p11_l4.toInt - v1.toInt := sb_i e_v79 rfl rfl (by omega) (by omega)
        refine lv_iconst (v := 5) hx hb dX9_takeNumber_80 (by decide) ?_
        refine lv_icmp_gt (tgt := 96) hx hb dX9_takeNumber_81 (by decide) (fun c_81 => ?_) (fun c_81 => ?_)
        · simp only [fa_lt, fa_le, fa_eq, li_5] at c_81
          refine lv_aload_n hx hb dX9_takeNumber_96 rfl (lv_at hl 0 rfl) ?_
          refine lv_iload_n hx hb dX9_takeNumber_97 rfl (lv_at hl 3 rfl) ?_
          refine lv_iconst (v := 1) hx hb dX9_takeNumber_98 (by decide) ?_
          refine t_callv (va_runV (As := [.int v1, .int 1]) (rest := []) ⟨hx, hb, hml, hown, hts⟩ (t_X9_fail l dC dI tys κ B w61 hw.2.2.2.2 a0 k_a0 v1 (by omega) (by omega) 1 (by decide) (by decide) H.size) (cwV 2 hts (gUV tw_581 tw_562 tw_563 tw_2 tw_564) rfl rfl rfl (by decide +kernel) ⟨(Nat.le_of_ble_eq_true rfl), (Nat.le_of_ble_eq_true rfl)⟩) ⟨cPre.blind, t_recv hw (ci := 9) k_a0 rfl rfl, cPre.use hw.2.1 hw.1 hw.2.2.1 hE⟩ rfl rfl hl.1 rfl (lv_room (Nat.le_of_ble_eq_true rfl)) dX9_takeNumber_99 ⟨(Nat.le_of_ble_eq_true rfl), (Nat.le_of_ble_eq_true rfl)⟩) hw hA (fun _ h => h.1) (fun w_1 H locs hp hw => ?_)
          obtain ⟨_, hm, ⟨v99f, l_v99f, h_v99f, f_a0_X9_3⟩⟩ := hp
          have zc_1 := li_1
          have hM := hM.trans hm (by decide) (by decide)
          have f_a0_X9_1 := hm.1 _ _ _ _ f_a0_X9_1 (by decide)
          have f_a0_X9_2 := hm.1 _ _ _ _ f_a0_X9_2 (by decide)
          refine lv_aload_n hx hb dX9_takeNumber_102 rfl (lv_at hl 0 rfl) ?_
          refine lv_iload hx hb dX9_takeNumber_103 (lv_at hl 4 rfl) ?_
          refine t_callv (va_runV (As := [.int p11_l4]) (rest := []) ⟨hx, hb, hml, hown, hts⟩ (t_X9_moveTo l dC dI tys κ B w_1 hw.2.2.2.2 a0 k_a0 p11_l4 (by omega) (by omega) H.size) (cwV 1 hts (gUV tw_496 tw_498 ts_0_0 tw_2 tw_499) rfl rfl rfl (by decide +kernel) ⟨(Nat.le_of_ble_eq_true rfl), (Nat.le_of_ble_eq_true rfl)⟩) ⟨cPre.blind, t_recv hw (ci := 9) k_a0 rfl rfl, cPre.use hw.2.1 hw.1 hw.2.2.1 hE⟩ rfl rfl hl.1 rfl (lv_room (Nat.le_of_ble_eq_true rfl)) dX9_takeNumber_105 ⟨(Nat.le_of_ble_eq_true rfl), (Nat.le_of_ble_eq_true rfl)⟩) hw hA (fun _ h => h.1) (fun w_2 H locs hp hw => ?_)
          obtain ⟨_, hm⟩ := hp
          have hM := hM.trans hm (by decide) (by decide)
          have f_a0_X9_1 := hm.1 _ _ _ _ f_a0_X9_1 (by decide)
          have f_a0_X9_3 := hm.1 _ _ _ _ f_a0_X9_3 (by decide)
          refine lv_aload_n hx hb dX9_takeNumber_108 rfl (lv_at hl 0 rfl) ?_
          refine t_getk (ci := 9) (C := RX9) (T := TX9) (N := 4) hx hb hts iX9 hown hw rfl 3 (by decide) (hts _ tw_44) (fun _ h9 => h9) dX9_takeNumber_109 f_a0_X9_3 ?_
          refine lv_if_ne (tgt := 120) hx hb dX9_takeNumber_112 (by decide) (fun c_112 => ?_) (fun c_112 => by exfalso; simp only [fa_lt, fa_le, fa_eq, li_0] at c_112; omega)
          simp only [fa_lt, fa_le, fa_eq, li_0] at c_112
          refine lv_iload_n hx hb dX9_takeNumber_120 rfl (lv_at hl 1 rfl) ?_
          rw [hQ]
          refine W.widen (k := 0) (n := 0) (Nat.le_refl _) (Nat.le_refl _) ?_
          exact W.iret (v := a1) hx hb hr (fun t ht hW => ⟨⟨a1, w_2, rfl, ⟨(by omega), (by omega), hw.2.2.2.2, hM, (by omega)⟩, by rw [ht]; exact hw.2.1, va_K.moved hW.alike hw.1, hw.2.2.1⟩, hw.2.2.2.1.F ht⟩) hw.2.2.2.1.2.2 dX9_takeNumber_121
        · simp only [fa_lt, fa_le, fa_eq, li_5] at c_81
          refine lv_iload hx hb dX9_takeNumber_84 (lv_at hl 5 rfl) ?_
          refine lv_iload_n hx hb dX9_takeNumber_86 rfl (lv_at hl 1 rfl) ?_
          refine lv_icmp_lt (tgt := 96) hx hb dX9_takeNumber_87 (by decide) (fun c_87 => ?_) (fun c_87 => ?_)
          · simp only [fa_lt, fa_le, fa_eq] at c_87
            refine lv_aload_n hx hb dX9_takeNumber_96 rfl (lv_at hl 0 rfl) ?_
            refine lv_iload_n hx hb dX9_takeNumber_97 rfl (lv_at hl 3 rfl) ?_
            refine lv_iconst (v := 1) hx hb dX9_takeNumber_98 (by decide) ?_
            refine t_callv (va_runV (As := [.int v1, .int 1]) (rest := []) ⟨hx, hb, hml, hown, hts⟩ (t_X9_fail l dC dI tys κ B w61 hw.2.2.2.2 a0 k_a0 v1 (by omega) (by omega) 1 (by decide) (by decide) H.size) (cwV 2 hts (gUV tw_581 tw_562 tw_563 tw_2 tw_564) rfl rfl rfl (by decide +kernel) ⟨(Nat.le_of_ble_eq_true rfl), (Nat.le_of_ble_eq_true rfl)⟩) ⟨cPre.blind, t_recv hw (ci := 9) k_a0 rfl rfl, cPre.use hw.2.1 hw.1 hw.2.2.1 hE⟩ rfl rfl hl.1 rfl (lv_room (Nat.le_of_ble_eq_true rfl)) dX9_takeNumber_99 ⟨(Nat.le_of_ble_eq_true rfl), (Nat.le_of_ble_eq_true rfl)⟩) hw hA (fun _ h => h.1) (fun w_3 H locs hp hw => ?_)
            obtain ⟨_, hm, ⟨v99f, l_v99f, h_v99f, f_a0_X9_3⟩⟩ := hp
            have zc_1 := li_1
            have hM := hM.trans hm (by decide) (by decide)
            have f_a0_X9_1 := hm.1 _ _ _ _ f_a0_X9_1 (by decide)
            have f_a0_X9_2 := hm.1 _ _ _ _ f_a0_X9_2 (by decide)
            refine lv_aload_n hx hb dX9_takeNumber_102 rfl (lv_at hl 0 rfl) ?_
            refine lv_iload hx hb dX9_takeNumber_103 (lv_at hl 4 rfl) ?_
            refine t_callv (va_runV (As := [.int p11_l4]) (rest := []) ⟨hx, hb, hml, hown, hts⟩ (t_X9_moveTo l dC dI tys κ B w_3 hw.2.2.2.2 a0 k_a0 p11_l4 (by omega) (by omega) H.size) (cwV 1 hts (gUV tw_496 tw_498 ts_0_0 tw_2 tw_499) rfl rfl rfl (by decide +kernel) ⟨(Nat.le_of_ble_eq_true rfl), (Nat.le_of_ble_eq_true rfl)⟩) ⟨cPre.blind, t_recv hw (ci := 9) k_a0 rfl rfl, cPre.use hw.2.1 hw.1 hw.2.2.1 hE⟩ rfl rfl hl.1 rfl (lv_room (Nat.le_of_ble_eq_true rfl)) dX9_takeNumber_105 ⟨(Nat.le_of_ble_eq_true rfl), (Nat.le_of_ble_eq_true rfl)⟩) hw hA (fun _ h => h.1) (fun w_4 H locs hp hw => ?_)
            obtain ⟨_, hm⟩ := hp
            have hM := hM.trans hm (by decide) (by decide)
            have f_a0_X9_1 := hm.1 _ _ _ _ f_a0_X9_1 (by decide)
            have f_a0_X9_3 := hm.1 _ _ _ _ f_a0_X9_3 (by decide)
            refine lv_aload_n hx hb dX9_takeNumber_108 rfl (lv_at hl 0 rfl) ?_
            refine t_getk (ci := 9) (C := RX9) (T := TX9) (N := 4) hx hb hts iX9 hown hw rfl 3 (by decide) (hts _ tw_44) (fun _ h9 => h9) dX9_takeNumber_109 f_a0_X9_3 ?_
            refine lv_if_ne (tgt := 120) hx hb dX9_takeNumber_112 (by decide) (fun c_112 => ?_) (fun c_112 => by exfalso; simp only [fa_lt, fa_le, fa_eq, li_0] at c_112; omega)
            simp only [fa_lt, fa_le, fa_eq, li_0] at c_112
            refine lv_iload_n hx hb dX9_takeNumber_120 rfl (lv_at hl 1 rfl) ?_
            rw [hQ]
            refine W.widen (k := 0) (n := 0) (Nat.le_refl _) (Nat.le_refl _) ?_
            exact W.iret (v := a1) hx hb hr (fun t ht hW => ⟨⟨a1, w_4, rfl, ⟨(by omega), (by omega), hw.2.2.2.2, hM, (by omega)⟩, by rw [ht]; exact hw.2.1, va_K.moved hW.alike hw.1, hw.2.2.1⟩, hw.2.2.2.1.F ht⟩) hw.2.2.2.1.2.2 dX9_takeNumber_121
          · simp only [fa_lt, fa_le, fa_eq] at c_87
            refine lv_iload hx hb dX9_takeNumber_90 (lv_at hl 5 rfl) ?_
            refine lv_iload_n hx hb dX9_takeNumber_92 rfl (lv_at hl 2 rfl) ?_
            refine lv_icmp_le (tgt := 102) hx hb dX9_takeNumber_93 (by decide) (fun c_93 => ?_) (fun c_93 => ?_)
            · simp only [fa_lt, fa_le, fa_eq] at c_93
              refine lv_aload_n hx hb dX9_takeNumber_102 rfl (lv_at hl 0 rfl) ?_
              refine lv_iload hx hb dX9_takeNumber_103 (lv_at hl 4 rfl) ?_
              refine t_callv (va_runV (As := [.int p11_l4]) (rest := []) ⟨hx, hb, hml, hown, hts⟩ (t_X9_moveTo l dC dI tys κ B w61 hw.2.2.2.2 a0 k_a0 p11_l4 (by omega) (by omega) H.size) (cwV 1 hts (gUV tw_496 tw_498 ts_0_0 tw_2 tw_499) rfl rfl rfl (by decide +kernel) ⟨(Nat.le_of_ble_eq_true rfl), (Nat.le_of_ble_eq_true rfl)⟩) ⟨cPre.blind, t_recv hw (ci := 9) k_a0 rfl rfl, cPre.use hw.2.1 hw.1 hw.2.2.1 hE⟩ rfl rfl hl.1 rfl (lv_room (Nat.le_of_ble_eq_true rfl)) dX9_takeNumber_105 ⟨(Nat.le_of_ble_eq_true rfl), (Nat.le_of_ble_eq_true rfl)⟩) hw hA (fun _ h => h.1) (fun w_5 H locs hp hw => ?_)
              obtain ⟨_, hm⟩ := hp
              have hM := hM.trans hm (by decide) (by decide)
              have f_a0_X9_1 := hm.1 _ _ _ _ f_a0_X9_1 (by decide)
              refine lv_aload_n hx hb dX9_takeNumber_108 rfl (lv_at hl 0 rfl) ?_
              refine t_geti (ci := 9) (C := RX9) (T := TX9) (N := 4) hx hb hts iX9 hown hw k_a0 rfl rfl rfl 3 (by decide) (hts _ tw_44) (fun _ h9 => h9) dX9_takeNumber_109 rfl (fun v109 l_v109 h_v109 f_a0_X9_3 => ?_)
              have l_v109 : 0 ≤ v109.toInt := l_v109
              have h_v109 : v109.toInt ≤ 3205 := h_v109
              refine lv_if_ne (tgt := 120) hx hb dX9_takeNumber_112 (by decide) (fun c_112 => ?_) (fun c_112 => ?_)
              · simp only [fa_lt, fa_le, fa_eq, li_0] at c_112
                refine lv_iload_n hx hb dX9_takeNumber_120 rfl (lv_at hl 1 rfl) ?_
                rw [hQ]
                refine W.widen (k := 0) (n := 0) (Nat.le_refl _) (Nat.le_refl _) ?_
                exact W.iret (v := a1) hx hb hr (fun t ht hW => ⟨⟨a1, w_5, rfl, ⟨(by omega), (by omega), hw.2.2.2.2, hM, (by omega)⟩, by rw [ht]; exact hw.2.1, va_K.moved hW.alike hw.1, hw.2.2.1⟩, hw.2.2.2.1.F ht⟩) hw.2.2.2.1.2.2 dX9_takeNumber_121
              · simp only [fa_lt, fa_le, fa_eq, li_0] at c_112
                refine lv_iload hx hb dX9_takeNumber_115 (lv_at hl 5 rfl) ?_
                refine lv_goto (tgt := 121) hx hb dX9_takeNumber_117 (by decide) ?_
                rw [hQ]
                refine W.widen (k := 0) (n := 0) (Nat.le_refl _) (Nat.le_refl _) ?_
                exact W.iret (v := p11_l5) hx hb hr (fun t ht hW => ⟨⟨p11_l5, w_5, rfl, ⟨(by omega), (by omega), hw.2.2.2.2, hM, (by omega)⟩, by rw [ht]; exact hw.2.1, va_K.moved hW.alike hw.1, hw.2.2.1⟩, hw.2.2.2.1.F ht⟩) hw.2.2.2.1.2.2 dX9_takeNumber_121
            · simp only [fa_lt, fa_le, fa_eq] at c_93
              refine lv_aload_n hx hb dX9_takeNumber_96 rfl (lv_at hl 0 rfl) ?_
              refine lv_iload_n hx hb dX9_takeNumber_97 rfl (lv_at hl 3 rfl) ?_
              refine lv_iconst (v := 1) hx hb dX9_takeNumber_98 (by decide) ?_
              refine t_callv (va_runV (As := [.int v1, .int 1]) (rest := []) ⟨hx, hb, hml, hown, hts⟩ (t_X9_fail l dC dI tys κ B w61 hw.2.2.2.2 a0 k_a0 v1 (by omega) (by omega) 1 (by decide) (by decide) H.size) (cwV 2 hts (gUV tw_581 tw_562 tw_563 tw_2 tw_564) rfl rfl rfl (by decide +kernel) ⟨(Nat.le_of_ble_eq_true rfl), (Nat.le_of_ble_eq_true rfl)⟩) ⟨cPre.blind, t_recv hw (ci := 9) k_a0 rfl rfl, cPre.use hw.2.1 hw.1 hw.2.2.1 hE⟩ rfl rfl hl.1 rfl (lv_room (Nat.le_of_ble_eq_true rfl)) dX9_takeNumber_99 ⟨(Nat.le_of_ble_eq_true rfl), (Nat.le_of_ble_eq_true rfl)⟩) hw hA (fun _ h => h.1) (fun w_6 H locs hp hw => ?_)
              obtain ⟨_, hm, ⟨v99f, l_v99f, h_v99f, f_a0_X9_3⟩⟩ := hp
              have zc_1 := li_1
              have hM := hM.trans hm (by decide) (by decide)
              have f_a0_X9_1 := hm.1 _ _ _ _ f_a0_X9_1 (by decide)
              have f_a0_X9_2 := hm.1 _ _ _ _ f_a0_X9_2 (by decide)
              refine lv_aload_n hx hb dX9_takeNumber_102 rfl (lv_at hl 0 rfl) ?_
              refine lv_iload hx hb dX9_takeNumber_103 (lv_at hl 4 rfl) ?_
              refine t_callv (va_runV (As := [.int p11_l4]) (rest := []) ⟨hx, hb, hml, hown, hts⟩ (t_X9_moveTo l dC dI tys κ B w_6 hw.2.2.2.2 a0 k_a0 p11_l4 (by omega) (by omega) H.size) (cwV 1 hts (gUV tw_496 tw_498 ts_0_0 tw_2 tw_499) rfl rfl rfl (by decide +kernel) ⟨(Nat.le_of_ble_eq_true rfl), (Nat.le_of_ble_eq_true rfl)⟩) ⟨cPre.blind, t_recv hw (ci := 9) k_a0 rfl rfl, cPre.use hw.2.1 hw.1 hw.2.2.1 hE⟩ rfl rfl hl.1 rfl (lv_room (Nat.le_of_ble_eq_true rfl)) dX9_takeNumber_105 ⟨(Nat.le_of_ble_eq_true rfl), (Nat.le_of_ble_eq_true rfl)⟩) hw hA (fun _ h => h.1) (fun w_7 H locs hp hw => ?_)
              obtain ⟨_, hm⟩ := hp
              have hM := hM.trans hm (by decide) (by decide)
              have f_a0_X9_1 := hm.1 _ _ _ _ f_a0_X9_1 (by decide)
              have f_a0_X9_3 := hm.1 _ _ _ _ f_a0_X9_3 (by decide)
              refine lv_aload_n hx hb dX9_takeNumber_108 rfl (lv_at hl 0 rfl) ?_
              refine t_getk (ci := 9) (C := RX9) (T := TX9) (N := 4) hx hb hts iX9 hown hw rfl 3 (by decide) (hts _ tw_44) (fun _ h9 => h9) dX9_takeNumber_109 f_a0_X9_3 ?_
              refine lv_if_ne (tgt := 120) hx hb dX9_takeNumber_112 (by decide) (fun c_112 => ?_) (fun c_112 => by exfalso; simp only [fa_lt, fa_le, fa_eq, li_0] at c_112; omega)
              simp only [fa_lt, fa_le, fa_eq, li_0] at c_112
              refine lv_iload_n hx hb dX9_takeNumber_120 rfl (lv_at hl 1 rfl) ?_
              rw [hQ]
              refine W.widen (k := 0) (n := 0) (Nat.le_refl _) (Nat.le_refl _) ?_
              exact W.iret (v := a1) hx hb hr (fun t ht hW => ⟨⟨a1, w_7, rfl, ⟨(by omega), (by omega), hw.2.2.2.2, hM, (by omega)⟩, by rw [ht]; exact hw.2.1, va_K.moved hW.alike hw.1, hw.2.2.1⟩, hw.2.2.2.1.F ht⟩) hw.2.2.2.1.2.2 dX9_takeNumber_121
      · simp only [fa_lt, fa_le, fa_eq] at c_64
        refine lv_aload_n hx hb dX9_takeNumber_67 rfl (lv_at hl 0 rfl) ?_
        refine lv_iload_n hx hb dX9_takeNumber_68 rfl (lv_at hl 3 rfl) ?_
        refine lv_iconst (v := 0) hx hb dX9_takeNumber_69 (by decide) ?_
        refine t_callv (va_runV (As := [.int v1, .int 0]) (rest := []) ⟨hx, hb, hml, hown, hts⟩ (t_X9_fail l dC dI tys κ B w61 hw.2.2.2.2 a0 k_a0 v1 (by omega) (by omega) 0 (by decide) (by decide) H.size) (cwV 2 hts (gUV tw_581 tw_562 tw_563 tw_2 tw_564) rfl rfl rfl (by decide +kernel) ⟨(Nat.le_of_ble_eq_true rfl), (Nat.le_of_ble_eq_true rfl)⟩) ⟨cPre.blind, t_recv hw (ci := 9) k_a0 rfl rfl, cPre.use hw.2.1 hw.1 hw.2.2.1 hE⟩ rfl rfl hl.1 rfl (lv_room (Nat.le_of_ble_eq_true rfl)) dX9_takeNumber_70 ⟨(Nat.le_of_ble_eq_true rfl), (Nat.le_of_ble_eq_true rfl)⟩) hw hA (fun _ h => h.1) (fun w_8 H locs hp hw => ?_)
        obtain ⟨_, hm, ⟨v70f, l_v70f, h_v70f, f_a0_X9_3⟩⟩ := hp
        have zc_0 := li_0
        have hM := hM.trans hm (by decide) (by decide)
        have f_a0_X9_1 := hm.1 _ _ _ _ f_a0_X9_1 (by decide)
        have f_a0_X9_2 := hm.1 _ _ _ _ f_a0_X9_2 (by decide)
        refine lv_goto (tgt := 102) hx hb dX9_takeNumber_73 (by decide) ?_
        refine lv_aload_n hx hb dX9_takeNumber_102 rfl (lv_at hl 0 rfl) ?_
        refine lv_iload hx hb dX9_takeNumber_103 (lv_at hl 4 rfl) ?_
        refine t_callv (va_runV (As := [.int p11_l4]) (rest := []) ⟨hx, hb, hml, hown, hts⟩ (t_X9_moveTo l dC dI tys κ B w_8 hw.2.2.2.2 a0 k_a0 p11_l4 (by omega) (by omega) H.size) (cwV 1 hts (gUV tw_496 tw_498 ts_0_0 tw_2 tw_499) rfl rfl rfl (by decide +kernel) ⟨(Nat.le_of_ble_eq_true rfl), (Nat.le_of_ble_eq_true rfl)⟩) ⟨cPre.blind, t_recv hw (ci := 9) k_a0 rfl rfl, cPre.use hw.2.1 hw.1 hw.2.2.1 hE⟩ rfl rfl hl.1 rfl (lv_room (Nat.le_of_ble_eq_true rfl)) dX9_takeNumber_105 ⟨(Nat.le_of_ble_eq_true rfl), (Nat.le_of_ble_eq_true rfl)⟩) hw hA (fun _ h => h.1) (fun w_9 H locs hp hw => ?_)
        obtain ⟨_, hm⟩ := hp
        have hM := hM.trans hm (by decide) (by decide)
        have f_a0_X9_1 := hm.1 _ _ _ _ f_a0_X9_1 (by decide)
        have f_a0_X9_3 := hm.1 _ _ _ _ f_a0_X9_3 (by decide)
        refine lv_aload_n hx hb dX9_takeNumber_108 rfl (lv_at hl 0 rfl) ?_
        refine t_getk (ci := 9) (C := RX9) (T := TX9) (N := 4) hx hb hts iX9 hown hw rfl 3 (by decide) (hts _ tw_44) (fun _ h9 => h9) dX9_takeNumber_109 f_a0_X9_3 ?_
        refine lv_if_ne (tgt := 120) hx hb dX9_takeNumber_112 (by decide) (fun c_112 => ?_) (fun c_112 => by exfalso; simp only [fa_lt, fa_le, fa_eq, li_0] at c_112; omega)
        simp only [fa_lt, fa_le, fa_eq, li_0] at c_112
        refine lv_iload_n hx hb dX9_takeNumber_120 rfl (lv_at hl 1 rfl) ?_
        rw [hQ]
        refine W.widen (k := 0) (n := 0) (Nat.le_refl _) (Nat.le_refl _) ?_
        exact W.iret (v := a1) hx hb hr (fun t ht hW => ⟨⟨a1, w_9, rfl, ⟨(by omega), (by omega), hw.2.2.2.2, hM, (by omega)⟩, by rw [ht]; exact hw.2.1, va_K.moved hW.alike hw.1, hw.2.2.1⟩, hw.2.2.2.1.F ht⟩) hw.2.2.2.1.2.2 dX9_takeNumber_121
    refine lv_icmp_ge (tgt := 61) hx hb dX9_takeNumber_17 (by decide) (fun c_17 => ?_) (fun c_17 => ?_)
    · simp only [fa_lt, fa_le, fa_eq] at c_17
      exact J61 _ _ _ w11 hw hM f_a0_X9_1 f_a0_X9_2 (lv_sub hl [0, 1, 2, 3, 4, 5] rfl)
    · simp only [fa_lt, fa_le, fa_eq] at c_17
      refine lv_aload_n hx hb dX9_takeNumber_20 rfl (lv_at hl 0 rfl) ?_
      refine lv_iload hx hb dX9_takeNumber_21 (lv_at hl 4 rfl) ?_
      refine t_calli (va_runV (As := [.int p11_l4]) (rest := []) ⟨hx, hb, hml, hown, hts⟩ (t_X9_isDigitAt l dC dI tys κ B w11 hw.2.2.2.2 a0 k_a0 p11_l4 (by omega) (by omega) H.size) (cwV 1 hts (gUV tw_577 tw_578 tw_579 tw_2 tw_580) rfl rfl rfl (by decide +kernel) ⟨(Nat.le_of_ble_eq_true rfl), (Nat.le_of_ble_eq_true rfl)⟩) ⟨cPre.blind, t_recv hw (ci := 9) k_a0 rfl rfl, cPre.use hw.2.1 hw.1 hw.2.2.1 hE⟩ rfl rfl hl.1 rfl (lv_room (Nat.le_of_ble_eq_true rfl)) dX9_takeNumber_23 ⟨(Nat.le_of_ble_eq_true rfl), (Nat.le_of_ble_eq_true rfl)⟩) hw hA (fun _ _ h => h.2.2.1) (fun v23 w_10 H locs hp hw => ?_)
      obtain ⟨l_v23, h_v23, _, hm, x_v23_0⟩ := hp
      have hM := hM.trans hm (by decide) (by decide)
      have f_a0_X9_2 := hm.1 _ _ _ _ f_a0_X9_2 (by decide)
      have f_a0_X9_1 := hm.1 _ _ _ _ f_a0_X9_1 (by decide)
      refine lv_if_eq (tgt := 61) hx hb dX9_takeNumber_26 (by decide) (fun c_26 => ?_) (fun c_26 => ?_)
      · simp only [fa_lt, fa_le, fa_eq, li_0] at c_26
        exact J61 _ _ _ w_10 hw hM f_a0_X9_1 f_a0_X9_2 (lv_sub hl [0, 1, 2, 3, 4, 5] rfl)
      · simp only [fa_lt, fa_le, fa_eq, li_0] at c_26
        refine lv_iload hx hb dX9_takeNumber_29 (lv_at hl 4 rfl) ?_
        refine lv_iload_n hx hb dX9_takeNumber_31 rfl (lv_at hl 3 rfl) ?_
        refine lv_isub hx hb dX9_takeNumber_32 ?_
        refine lv_topi (fun v32 e_v32 => ?_)
        have e_v32 : v32.toInt = p11_l4.toInt - v1.toInt := sb_i e_v32 rfl rfl (by omega) (by omega)
        refine lv_iconst (v := 5) hx hb dX9_takeNumber_33 (by decide) ?_
        have J55 : ∀ (H : Heap) (locs : List Loc) (ls : Array Slot) (w55 : va_W) (p55_l5 : Int32), tW (dC, dI) tys κ B A s w55 H locs → Sm [(9, 2), (9, 3)] [] κ ws w55 → (-2147483648) ≤ p55_l5.toInt → p55_l5.toInt ≤ 2147483647 → fld w55 a0 9 1 (.int v14) → fld w55 a0 9 2 (.int v1) → lv_has ls 6 [(0, .ref a0), (1, .int a1), (2, .int a2), (3, .int v1), (4, .int p11_l4), (5, .int p55_l5)] → W p l e (headSpec (ws_u yX9_takeNumber cX9_takeNumber 6 (some .int)) ({ frames := 1, cells := 0, slots := 0, locals := 22 })).room s m ([.ref a0, .int a1, .int a2] : List Value).toArray below meth c H locs 0 0 QQ (F0 m 55 ls []) := by
          intro H locs ls w55 p55_l5 hw hM l_p55_l5 h_p55_l5 f_a0_X9_1 f_a0_X9_2 hl
          obtain ⟨v55, e_v55⟩ : ∃ y : Int32, y = p11_l4 + 1 := ⟨_, rfl⟩
          refine lv_iinc (v := v55) (lv' := [(4, .int v55), (0, .ref a0), (1, .int a1), (2, .int a2), (3, .int v1), (5, .int p55_l5)]) hx hb dX9_takeNumber_55 hl (k := 4) rfl e_v55.symm (by decide) rfl (fun ls hl => ?_)
          have e_v55 : v55.toInt = p11_l4.toInt + 1 := ad_i e_v55 rfl li_1 (by omega) (by omega)
          refine lv_goto (tgt := 11) hx hb dX9_takeNumber_58 (by decide) ?_
          exact ih_11 _ _ _ _ (by omega) ⟨w55, v55, p55_l5, hw, hM, (by omega), (by omega), (by omega), (by omega), f_a0_X9_2, (lv_sub hl [1, 2, 3, 4, 0, 5] rfl), rfl⟩
        refine lv_icmp_ge (tgt := 55) hx hb dX9_takeNumber_34 (by decide) (fun c_34 => ?_) (fun c_34 => ?_)
        · simp only [fa_lt, fa_le, fa_eq, li_5] at c_34
          exact J55 _ _ _ w_10 p11_l5 hw hM (by omega) (by omega) f_a0_X9_1 f_a0_X9_2 (lv_sub hl [0, 1, 2, 3, 4, 5] rfl)
        · simp only [fa_lt, fa_le, fa_eq, li_5] at c_34
          refine lv_iload hx hb dX9_takeNumber_37 (lv_at hl 5 rfl) ?_
          refine lv_bipush (v := 10) hx hb dX9_takeNumber_39 (by decide) ?_
          refine lv_imul hx hb dX9_takeNumber_41 ?_
          refine lv_topi (fun v41 e_v41 => ?_)
          have l_v41 := i32_lo v41
          have h_v41 := i32_hi v41
          refine lv_aload_n hx hb dX9_takeNumber_42 rfl (lv_at hl 0 rfl) ?_
          refine t_getr (k1 := 49) (ci := 9) (C := RX9) (T := TX9) (N := 4) hx hb hts iX9 hown hw k_a0 rfl rfl rfl 0 (by decide) (hts _ tw_36) (fun _ h9 => h9) dX9_takeNumber_43 rfl (fun v43 k_v43 f_a0_X9_0 => ?_)
          refine lv_iload hx hb dX9_takeNumber_46 (lv_at hl 4 rfl) ?_
          refine t_bald hx hb hw k_v43 rfl rfl (by omega) (show p11_l4.toInt < 400 by omega) dX9_takeNumber_48 (fun v48 r_v48 s_v48 q_v48 => ?_)
          have l_v48 := i32_lo v48
          have h_v48 := i32_hi v48
          refine lv_iadd hx hb dX9_takeNumber_49 ?_
          refine lv_topi (fun v49 e_v49 => ?_)
          have l_v49 := i32_lo v49
          have h_v49 := i32_hi v49
          refine lv_bipush (v := 48) hx hb dX9_takeNumber_50 (by decide) ?_
          refine lv_isub hx hb dX9_takeNumber_52 ?_
          refine lv_topi (fun v52 e_v52 => ?_)
          have l_v52 := i32_lo v52
          have h_v52 := i32_hi v52
          refine lv_istore (lv' := [(5, .int v52), (0, .ref a0), (1, .int a1), (2, .int a2), (3, .int v1), (4, .int p11_l4)]) hx hb dX9_takeNumber_53 hl (by decide) rfl (fun ls hl => ?_)
          exact J55 _ _ _ w_10 v52 hw hM (by omega) (by omega) f_a0_X9_1 f_a0_X9_2 (lv_sub hl [1, 2, 3, 4, 5, 0] rfl)
  exact J11 _ _ _ _ ⟨ws, v1, 0, hw, hM, (by omega), (by omega), (by decide), (by decide), f_a0_X9_2, (lv_sub hl [3, 4, 5, 2, 1, 0] rfl), rfl⟩
set_option maxHeartbeats 4000000 in
set_option maxRecDepth 100000 in
theorem t_X1_readLikes (l : Launch) (dC : Nat → ClassId) (dI : Nat → Nat → Nat) (tys : List (ClassId × FieldType)) (κ : tK) (B : Nat) (ws : va_W) (hT : Ty κ tys B ws) (a0 : Nat) (k_a0 : κ a0 = some 1) (a1 : Nat) (k_a1 : κ a1 = some 9) (sz : Nat) : Met l yX1_readLikes (ws_u yX1_readLikes cX1_readLikes 4 none) ({ frames := 2, cells := 0, slots := 0, locals := 47 }) (va_Pc [.ref a0, .ref a1] (cPre (dC, dI) tys ws sz)) (va_Qv (fun (w : va_W) => Ty κ tys B w ∧ Sm [(9, 2), (9, 3)] [23] κ ws w) (fun w t => cPost (dC, dI) tys w (va_A ws sz) t) (va_A ws sz)) 0 0 (va_A ws sz) := by
  refine Met.ofW (cc := cX1_readLikes) (maxL := 4) (ret := none) (by decide) rfl ?_
  intro p e s m args below meth c s₁ B0 hml hv
  obtain ⟨rfl, hsz, hP, hK, hD0, hE⟩ := hv
  have hx := B0.exec
  have hb := B0.bytes
  have hr := B0.returns
  have hts0 := atoms_spec (ws := ws_u yX1_readLikes cX1_readLikes 4 none) B0.pre
  have hts : ∀ w ∈ gT, w.before _ s = true := fun w h => hts0 w (List.mem_cons_of_mem _ h)
  have hown : s.vm.findClass RX1 = some m.cls := findClass_of_methodNamed B0.named
  have hlocks := B0.notSynchronized
  subst hsz
  have hD := hD0.self (sz := s.heap.size)
  generalize hAe : va_A ws s.heap.size = A at hD ⊢
  have hA : ∀ q : Nat, s.heap.size ≤ q → A q := fun q h => by rw [← hAe]; exact Or.inr h
  have hw : tW (dC, dI) tys κ B A s ws s.heap [] := ⟨hK, hP, hD, va_S.rf, hT⟩
  have hM : Sm [(9, 2), (9, 3)] [23] κ ws ws := Sm.rf
  clear hP hK hD hD0 hts0
  have hl := lv_entry ([.ref a0, .ref a1]) (n := 4) (Nat.le_of_ble_eq_true rfl)
  rw [lg_entry_eq]
  generalize (lg_sl ([.ref a0, .ref a1]) ++ List.replicate (4 - (lg_sl ([.ref a0, .ref a1])).length) Slot.unset).toArray = ls at hl ⊢
  have hl : lv_has ls 4 [(0, .ref a0), (1, .ref a1)] := hl
  refine t_start (fun QQ hQ => ?_)
  refine lv_aload_n hx hb dX1_readLikes_0 rfl (lv_at hl 1 rfl) ?_
  refine lv_iconst (v := 0) hx hb dX1_readLikes_1 (by decide) ?_
  refine lv_aload_n hx hb dX1_readLikes_2 rfl (lv_at hl 0 rfl) ?_
  refine t_getr (k1 := 0) (ci := 1) (C := RX1) (T := TX1) (N := 1) hx hb hts iX1 hown hw k_a0 rfl rfl rfl 0 (by decide) (hts _ tw_156) (fun _ h9 => h9) dX1_readLikes_3 rfl (fun v3 k_v3 f_a0_X1_0 => ?_)
  refine t_geti (ci := 0) (C := RX0) (T := TX0) (N := 16) hx hb hts iX0 hown hw k_v3 rfl rfl rfl 3 (by decide) (hts _ tw_79) (fun _ h9 => h9) dX1_readLikes_6 rfl (fun v6 l_v6 h_v6 f_v3_X0_3 => ?_)
  have l_v6 : 0 ≤ v6.toInt := l_v6
  have h_v6 : v6.toInt ≤ 6 := h_v6
  refine lv_iconst (v := 1) hx hb dX1_readLikes_9 (by decide) ?_
  refine lv_isub hx hb dX1_readLikes_10 ?_
  refine lv_topi (fun v10 e_v10 => ?_)
  have e_v10 : v10.toInt = v6.toInt - 1 := sb_i e_v10 rfl li_1 (by omega) (by omega)
  refine t_calli (va_runV (As := [.int 0, .int v10]) (rest := []) ⟨hx, hb, hml, hown, hts⟩ (t_X9_takeNumber l dC dI tys κ B ws hw.2.2.2.2 a1 k_a1 0 (by decide) (by decide) v10 (by omega) (by omega) s.heap.size) (cwV 2 hts (gUV tw_573 tw_574 tw_575 tw_2 tw_576) rfl rfl rfl (by decide +kernel) ⟨(Nat.le_of_ble_eq_true rfl), (Nat.le_of_ble_eq_true rfl)⟩) ⟨cPre.blind, t_recv hw (ci := 9) k_a1 rfl rfl, cPre.use hw.2.1 hw.1 hw.2.2.1 hE⟩ rfl rfl hl.1 rfl (lv_room (Nat.le_of_ble_eq_true rfl)) dX1_readLikes_11 ⟨(Nat.le_of_ble_eq_true rfl), (Nat.le_of_ble_eq_true rfl)⟩) hw hA (fun _ _ h => h.2.2.1) (fun v11 w_1 H locs hp hw => ?_)
  obtain ⟨l_v11, h_v11, _, hm, x_v11_0⟩ := hp
  have zc_0 := li_0
  have hM := hM.trans hm (by decide) (by decide)
  have f_a0_X1_0 := hm.1 _ _ _ _ f_a0_X1_0 (by decide)
  have f_v3_X0_3 := hm.1 _ _ _ _ f_v3_X0_3 (by decide)
  refine lv_istore_n (lv' := [(2, .int v11), (0, .ref a0), (1, .ref a1)]) hx hb dX1_readLikes_14 rfl hl (by decide) rfl (fun ls hl => ?_)
  refine lv_aload_n hx hb dX1_readLikes_15 rfl (lv_at hl 2 rfl) ?_
  refine lv_iconst (v := 0) hx hb dX1_readLikes_16 (by decide) ?_
  refine lv_aload_n hx hb dX1_readLikes_17 rfl (lv_at hl 1 rfl) ?_
  refine t_getk (ci := 1) (C := RX1) (T := TX1) (N := 1) hx hb hts iX1 hown hw rfl 0 (by decide) (hts _ tw_156) (fun _ h9 => h9) dX1_readLikes_18 f_a0_X1_0 ?_
  refine t_getk (ci := 0) (C := RX0) (T := TX0) (N := 16) hx hb hts iX0 hown hw rfl 3 (by decide) (hts _ tw_79) (fun _ h9 => h9) dX1_readLikes_21 f_v3_X0_3 ?_
  refine lv_iconst (v := 1) hx hb dX1_readLikes_24 (by decide) ?_
  refine lv_isub hx hb dX1_readLikes_25 ?_
  refine lv_topi (fun v25 e_v25 => ?_)
  have e_v25 : v25.toInt = v6.toInt - 1 := sb_i e_v25 rfl li_1 (by omega) (by omega)
  refine t_calli (va_runV (As := [.int 0, .int v25]) (rest := []) ⟨hx, hb, hml, hown, hts⟩ (t_X9_takeNumber l dC dI tys κ B w_1 hw.2.2.2.2 a1 k_a1 0 (by decide) (by decide) v25 (by omega) (by omega) H.size) (cwV 2 hts (gUV tw_573 tw_574 tw_575 tw_2 tw_576) rfl rfl rfl (by decide +kernel) ⟨(Nat.le_of_ble_eq_true rfl), (Nat.le_of_ble_eq_true rfl)⟩) ⟨cPre.blind, t_recv hw (ci := 9) k_a1 rfl rfl, cPre.use hw.2.1 hw.1 hw.2.2.1 hE⟩ rfl rfl hl.1 rfl (lv_room (Nat.le_of_ble_eq_true rfl)) dX1_readLikes_26 ⟨(Nat.le_of_ble_eq_true rfl), (Nat.le_of_ble_eq_true rfl)⟩) hw hA (fun _ _ h => h.2.2.1) (fun v26 w_2 H locs hp hw => ?_)
  obtain ⟨l_v26, h_v26, _, hm, x_v26_0⟩ := hp
  have zc_0 := li_0
  have hM := hM.trans hm (by decide) (by decide)
  have f_a0_X1_0 := hm.1 _ _ _ _ f_a0_X1_0 (by decide)
  have f_v3_X0_3 := hm.1 _ _ _ _ f_v3_X0_3 (by decide)
  refine lv_istore_n (lv' := [(3, .int v26), (2, .int v11), (0, .ref a0), (1, .ref a1)]) hx hb dX1_readLikes_29 rfl hl (by decide) rfl (fun ls hl => ?_)
  refine lv_aload_n hx hb dX1_readLikes_30 rfl (lv_at hl 2 rfl) ?_
  refine t_getk (ci := 1) (C := RX1) (T := TX1) (N := 1) hx hb hts iX1 hown hw rfl 0 (by decide) (hts _ tw_156) (fun _ h9 => h9) dX1_readLikes_31 f_a0_X1_0 ?_
  refine t_getr (k1 := 23) (ci := 0) (C := RX0) (T := TX0) (N := 16) hx hb hts iX0 hown hw k_v3 rfl rfl rfl 9 (by decide) (hts _ tw_103) (fun _ h9 => h9) dX1_readLikes_34 rfl (fun v34 k_v34 f_v3_X0_9 => ?_)
  refine lv_iload_n hx hb dX1_readLikes_37 rfl (lv_at hl 1 rfl) ?_
  refine lv_bipush (v := 6) hx hb dX1_readLikes_38 (by decide) ?_
  refine lv_imul hx hb dX1_readLikes_40 ?_
  refine lv_topi (fun v40 e_v40 => ?_)
  have e_v40 : v40.toInt = v11.toInt * 6 := ml_i e_v40 rfl li_6 (by omega) (by omega)
  refine lv_iload_n hx hb dX1_readLikes_41 rfl (lv_at hl 0 rfl) ?_
  refine lv_iadd hx hb dX1_readLikes_42 ?_
  refine lv_topi (fun v42 e_v42 => ?_)
  have e_v42 : v42.toInt = v40.toInt + v26.toInt := ad_i e_v42 rfl rfl (by omega) (by omega)
  refine lv_aload_n hx hb dX1_readLikes_43 rfl (lv_at hl 3 rfl) ?_
  refine lv_iconst (v := 0) hx hb dX1_readLikes_44 (by decide) ?_
  refine lv_bipush (v := 20) hx hb dX1_readLikes_45 (by decide) ?_
  refine t_calli (va_runV (As := [.int 0, .int 20]) (rest := [.int v42, .ref v34]) ⟨hx, hb, hml, hown, hts⟩ (t_X9_takeNumber l dC dI tys κ B w_2 hw.2.2.2.2 a1 k_a1 0 (by decide) (by decide) 20 (by decide) (by decide) H.size) (cwV 2 hts (gUV tw_573 tw_574 tw_575 tw_2 tw_576) rfl rfl rfl (by decide +kernel) ⟨(Nat.le_of_ble_eq_true rfl), (Nat.le_of_ble_eq_true rfl)⟩) ⟨cPre.blind, t_recv hw (ci := 9) k_a1 rfl rfl, cPre.use hw.2.1 hw.1 hw.2.2.1 hE⟩ rfl rfl hl.1 rfl (lv_room (Nat.le_of_ble_eq_true rfl)) dX1_readLikes_47 ⟨(Nat.le_of_ble_eq_true rfl), (Nat.le_of_ble_eq_true rfl)⟩) hw hA (fun _ _ h => h.2.2.1) (fun v47 w_3 H locs hp hw => ?_)
  obtain ⟨l_v47, h_v47, _, hm, x_v47_0⟩ := hp
  have zc_0 := li_0
  have zc_20 := li_20
  have hM := hM.trans hm (by decide) (by decide)
  have f_a0_X1_0 := hm.1 _ _ _ _ f_a0_X1_0 (by decide)
  have f_v3_X0_3 := hm.1 _ _ _ _ f_v3_X0_3 (by decide)
  have f_v3_X0_9 := hm.1 _ _ _ _ f_v3_X0_9 (by decide)
  refine t_iast hx hb hw k_v34 rfl rfl (by omega) (show v42.toInt < 36 by omega) (i32_lo _) (i32_hi _) dX1_readLikes_50 (fun w_4 H locs hw u => ?_)
  have hM := hM.up3 u k_v34 (by decide)
  have f_a0_X1_0 := u.1 _ _ _ _ f_a0_X1_0
  have f_v3_X0_3 := u.1 _ _ _ _ f_v3_X0_3
  have f_v3_X0_9 := u.1 _ _ _ _ f_v3_X0_9
  rw [hQ]
  refine W.widen (k := 0) (n := 0) (Nat.le_refl _) (Nat.le_refl _) ?_
  exact W.vret hx hb hr (fun t ht hW => ⟨⟨w_4, rfl, ⟨hw.2.2.2.2, hM⟩, by rw [ht]; exact hw.2.1, va_K.moved hW.alike hw.1, hw.2.2.1⟩, hw.2.2.2.1.F ht⟩) hw.2.2.2.1.2.2 dX1_readLikes_51
set_option maxHeartbeats 4000000 in
set_option maxRecDepth 100000 in
theorem t_X1_readWay (l : Launch) (dC : Nat → ClassId) (dI : Nat → Nat → Nat) (tys : List (ClassId × FieldType)) (κ : tK) (B : Nat) (ws : va_W) (hT : Ty κ tys B ws) (a0 : Nat) (k_a0 : κ a0 = some 1) (a1 : Nat) (k_a1 : κ a1 = some 9) (sz : Nat) : Met l yX1_readWay (ws_u yX1_readWay cX1_readWay 5 none) ({ frames := 2, cells := 0, slots := 0, locals := 47 }) (va_Pc [.ref a0, .ref a1] (cPre (dC, dI) tys ws sz)) (va_Qv (fun (w : va_W) => Ty κ tys B w ∧ Sm [(9, 2), (9, 3)] [28] κ ws w) (fun w t => cPost (dC, dI) tys w (va_A ws sz) t) (va_A ws sz)) 0 0 (va_A ws sz) := by
  refine Met.ofW (cc := cX1_readWay) (maxL := 5) (ret := none) (by decide) rfl ?_
  intro p e s m args below meth c s₁ B0 hml hv
  obtain ⟨rfl, hsz, hP, hK, hD0, hE⟩ := hv
  have hx := B0.exec
  have hb := B0.bytes
  have hr := B0.returns
  have hts0 := atoms_spec (ws := ws_u yX1_readWay cX1_readWay 5 none) B0.pre
  have hts : ∀ w ∈ gT, w.before _ s = true := fun w h => hts0 w (List.mem_cons_of_mem _ h)
  have hown : s.vm.findClass RX1 = some m.cls := findClass_of_methodNamed B0.named
  have hlocks := B0.notSynchronized
  subst hsz
  have hD := hD0.self (sz := s.heap.size)
  generalize hAe : va_A ws s.heap.size = A at hD ⊢
  have hA : ∀ q : Nat, s.heap.size ≤ q → A q := fun q h => by rw [← hAe]; exact Or.inr h
  have hw : tW (dC, dI) tys κ B A s ws s.heap [] := ⟨hK, hP, hD, va_S.rf, hT⟩
  have hM : Sm [(9, 2), (9, 3)] [28] κ ws ws := Sm.rf
  clear hP hK hD hD0 hts0
  have hl := lv_entry ([.ref a0, .ref a1]) (n := 5) (Nat.le_of_ble_eq_true rfl)
  rw [lg_entry_eq]
  generalize (lg_sl ([.ref a0, .ref a1]) ++ List.replicate (5 - (lg_sl ([.ref a0, .ref a1])).length) Slot.unset).toArray = ls at hl ⊢
  have hl : lv_has ls 5 [(0, .ref a0), (1, .ref a1)] := hl
  refine t_start (fun QQ hQ => ?_)
  refine lv_aload_n hx hb dX1_readWay_0 rfl (lv_at hl 1 rfl) ?_
  refine lv_iconst (v := 0) hx hb dX1_readWay_1 (by decide) ?_
  refine lv_aload_n hx hb dX1_readWay_2 rfl (lv_at hl 0 rfl) ?_
  refine t_getr (k1 := 0) (ci := 1) (C := RX1) (T := TX1) (N := 1) hx hb hts iX1 hown hw k_a0 rfl rfl rfl 0 (by decide) (hts _ tw_156) (fun _ h9 => h9) dX1_readWay_3 rfl (fun v3 k_v3 f_a0_X1_0 => ?_)
  refine t_geti (ci := 0) (C := RX0) (T := TX0) (N := 16) hx hb hts iX0 hown hw k_v3 rfl rfl rfl 5 (by decide) (hts _ tw_87) (fun _ h9 => h9) dX1_readWay_6 rfl (fun v6 l_v6 h_v6 f_v3_X0_5 => ?_)
  have l_v6 : 0 ≤ v6.toInt := l_v6
  have h_v6 : v6.toInt ≤ 6 := h_v6
  refine t_calli (va_runV (As := [.int 0, .int v6]) (rest := []) ⟨hx, hb, hml, hown, hts⟩ (t_X9_takeNumber l dC dI tys κ B ws hw.2.2.2.2 a1 k_a1 0 (by decide) (by decide) v6 (by omega) (by omega) s.heap.size) (cwV 2 hts (gUV tw_573 tw_574 tw_575 tw_2 tw_576) rfl rfl rfl (by decide +kernel) ⟨(Nat.le_of_ble_eq_true rfl), (Nat.le_of_ble_eq_true rfl)⟩) ⟨cPre.blind, t_recv hw (ci := 9) k_a1 rfl rfl, cPre.use hw.2.1 hw.1 hw.2.2.1 hE⟩ rfl rfl hl.1 rfl (lv_room (Nat.le_of_ble_eq_true rfl)) dX1_readWay_9 ⟨(Nat.le_of_ble_eq_true rfl), (Nat.le_of_ble_eq_true rfl)⟩) hw hA (fun _ _ h => h.2.2.1) (fun v9 w_1 H locs hp hw => ?_)
  obtain ⟨l_v9, h_v9, _, hm, x_v9_0⟩ := hp
  have zc_0 := li_0
  have hM := hM.trans hm (by decide) (by decide)
  have f_a0_X1_0 := hm.1 _ _ _ _ f_a0_X1_0 (by decide)
  have f_v3_X0_5 := hm.1 _ _ _ _ f_v3_X0_5 (by decide)
  refine lv_istore_n (lv' := [(2, .int v9), (0, .ref a0), (1, .ref a1)]) hx hb dX1_readWay_12 rfl hl (by decide) rfl (fun ls hl => ?_)
  refine lv_aload_n hx hb dX1_readWay_13 rfl (lv_at hl 2 rfl) ?_
  refine t_geti (ci := 9) (C := RX9) (T := TX9) (N := 4) hx hb hts iX9 hown hw k_a1 rfl rfl rfl 2 (by decide) (hts _ tw_40) (fun _ h9 => h9) dX1_readWay_14 rfl (fun v14 l_v14 h_v14 f_a1_X9_2 => ?_)
  have l_v14 : 0 ≤ v14.toInt := l_v14
  have h_v14 : v14.toInt ≤ 400 := h_v14
  refine lv_istore_n (lv' := [(3, .int v14), (2, .int v9), (0, .ref a0), (1, .ref a1)]) hx hb dX1_readWay_17 rfl hl (by decide) rfl (fun ls hl => ?_)
  refine lv_aload_n hx hb dX1_readWay_18 rfl (lv_at hl 3 rfl) ?_
  refine lv_iconst (v := 0) hx hb dX1_readWay_19 (by decide) ?_
  refine lv_aload_n hx hb dX1_readWay_20 rfl (lv_at hl 2 rfl) ?_
  refine t_getk (ci := 1) (C := RX1) (T := TX1) (N := 1) hx hb hts iX1 hown hw rfl 0 (by decide) (hts _ tw_156) (fun _ h9 => h9) dX1_readWay_21 f_a0_X1_0 ?_
  refine t_getk (ci := 0) (C := RX0) (T := TX0) (N := 16) hx hb hts iX0 hown hw rfl 5 (by decide) (hts _ tw_87) (fun _ h9 => h9) dX1_readWay_24 f_v3_X0_5 ?_
  refine t_calli (va_runV (As := [.int 0, .int v6]) (rest := []) ⟨hx, hb, hml, hown, hts⟩ (t_X9_takeNumber l dC dI tys κ B w_1 hw.2.2.2.2 a1 k_a1 0 (by decide) (by decide) v6 (by omega) (by omega) H.size) (cwV 2 hts (gUV tw_573 tw_574 tw_575 tw_2 tw_576) rfl rfl rfl (by decide +kernel) ⟨(Nat.le_of_ble_eq_true rfl), (Nat.le_of_ble_eq_true rfl)⟩) ⟨cPre.blind, t_recv hw (ci := 9) k_a1 rfl rfl, cPre.use hw.2.1 hw.1 hw.2.2.1 hE⟩ rfl rfl hl.1 rfl (lv_room (Nat.le_of_ble_eq_true rfl)) dX1_readWay_27 ⟨(Nat.le_of_ble_eq_true rfl), (Nat.le_of_ble_eq_true rfl)⟩) hw hA (fun _ _ h => h.2.2.1) (fun v27 w_2 H locs hp hw => ?_)
  obtain ⟨l_v27, h_v27, _, hm, x_v27_0⟩ := hp
  have zc_0 := li_0
  have hM := hM.trans hm (by decide) (by decide)
  have f_a0_X1_0 := hm.1 _ _ _ _ f_a0_X1_0 (by decide)
  have f_v3_X0_5 := hm.1 _ _ _ _ f_v3_X0_5 (by decide)
  refine lv_istore (lv' := [(4, .int v27), (3, .int v14), (2, .int v9), (0, .ref a0), (1, .ref a1)]) hx hb dX1_readWay_30 hl (by decide) rfl (fun ls hl => ?_)
  refine lv_iload_n hx hb dX1_readWay_32 rfl (lv_at hl 2 rfl) ?_
  refine lv_iload hx hb dX1_readWay_33 (lv_at hl 0 rfl) ?_
  have J44 : ∀ (H : Heap) (locs : List Loc) (ls : Array Slot) (w44 : va_W), tW (dC, dI) tys κ B A s w44 H locs → Sm [(9, 2), (9, 3)] [28] κ ws w44 → fld w44 a0 1 0 (.ref v3) → fld w44 v3 0 5 (.int v6) → lv_has ls 5 [(0, .ref a0), (1, .ref a1), (2, .int v9), (3, .int v14), (4, .int v27)] → W p l e (headSpec (ws_u yX1_readWay cX1_readWay 5 none) ({ frames := 2, cells := 0, slots := 0, locals := 47 })).room s m ([.ref a0, .ref a1] : List Value).toArray below meth c H locs 0 0 QQ (F0 m 44 ls []) := by
    intro H locs ls w44 hw hM f_a0_X1_0 f_v3_X0_5 hl
    refine lv_aload_n hx hb dX1_readWay_44 rfl (lv_at hl 0 rfl) ?_
    refine t_getk (ci := 1) (C := RX1) (T := TX1) (N := 1) hx hb hts iX1 hown hw rfl 0 (by decide) (hts _ tw_156) (fun _ h9 => h9) dX1_readWay_45 f_a0_X1_0 ?_
    refine lv_iload_n hx hb dX1_readWay_48 rfl (lv_at hl 2 rfl) ?_
    refine lv_iload hx hb dX1_readWay_49 (lv_at hl 4 rfl) ?_
    refine lv_aload_n hx hb dX1_readWay_51 rfl (lv_at hl 1 rfl) ?_
    refine lv_iconst (v := 1) hx hb dX1_readWay_52 (by decide) ?_
    refine lv_bipush (v := 12) hx hb dX1_readWay_53 (by decide) ?_
    refine t_calli (va_runV (As := [.int 1, .int 12]) (rest := [.int v27, .int v9, .ref v3]) ⟨hx, hb, hml, hown, hts⟩ (t_X9_takeNumber l dC dI tys κ B w44 hw.2.2.2.2 a1 k_a1 1 (by decide) (by decide) 12 (by decide) (by decide) H.size) (cwV 2 hts (gUV tw_573 tw_574 tw_575 tw_2 tw_576) rfl rfl rfl (by decide +kernel) ⟨(Nat.le_of_ble_eq_true rfl), (Nat.le_of_ble_eq_true rfl)⟩) ⟨cPre.blind, t_recv hw (ci := 9) k_a1 rfl rfl, cPre.use hw.2.1 hw.1 hw.2.2.1 hE⟩ rfl rfl hl.1 rfl (lv_room (Nat.le_of_ble_eq_true rfl)) dX1_readWay_55 ⟨(Nat.le_of_ble_eq_true rfl), (Nat.le_of_ble_eq_true rfl)⟩) hw hA (fun _ _ h => h.2.2.1) (fun v55 w_3 H locs hp hw => ?_)
    obtain ⟨l_v55, h_v55, _, hm, x_v55_0⟩ := hp
    have zc_1 := li_1
    have zc_12 := li_12
    have hM := hM.trans hm (by decide) (by decide)
    have f_a0_X1_0 := hm.1 _ _ _ _ f_a0_X1_0 (by decide)
    have f_v3_X0_5 := hm.1 _ _ _ _ f_v3_X0_5 (by decide)
    refine t_callv (va_runV (As := [.int v9, .int v27, .int v55]) (rest := []) ⟨hx, hb, hml, hown, hts⟩ (t_X0_setWay l dC dI tys κ B w_3 hw.2.2.2.2 v3 k_v3 v9 (by omega) (by omega) v27 (by omega) (by omega) v55 (by omega) (by omega) H.size) (cwV 3 hts (gUV tw_590 tw_591 tw_592 tw_4 tw_593) rfl rfl rfl (by decide +kernel) ⟨(Nat.le_of_ble_eq_true rfl), (Nat.le_of_ble_eq_true rfl)⟩) ⟨cPre.blind, t_recv hw (ci := 0) k_v3 rfl rfl, cPre.use hw.2.1 hw.1 hw.2.2.1 hE⟩ rfl rfl hl.1 rfl (lv_room (Nat.le_of_ble_eq_true rfl)) dX1_readWay_58 ⟨(Nat.le_of_ble_eq_true rfl), (Nat.le_of_ble_eq_true rfl)⟩) hw hA (fun _ h => h.1) (fun w_4 H locs hp hw => ?_)
    obtain ⟨_, hm⟩ := hp
    have hM := hM.trans hm (by decide) (by decide)
    have f_a0_X1_0 := hm.1 _ _ _ _ f_a0_X1_0 (by decide)
    have f_v3_X0_5 := hm.1 _ _ _ _ f_v3_X0_5 (by decide)
    rw [hQ]
    refine W.widen (k := 0) (n := 0) (Nat.le_refl _) (Nat.le_refl _) ?_
    exact W.vret hx hb hr (fun t ht hW => ⟨⟨w_4, rfl, ⟨hw.2.2.2.2, hM⟩, by rw [ht]; exact hw.2.1, va_K.moved hW.alike hw.1, hw.2.2.1⟩, hw.2.2.2.1.F ht⟩) hw.2.2.2.1.2.2 dX1_readWay_61
  refine lv_icmp_ne (tgt := 44) hx hb dX1_readWay_35 (by decide) (fun c_35 => ?_) (fun c_35 => ?_)
  · simp only [fa_lt, fa_le, fa_eq] at c_35
    exact J44 _ _ _ w_2 hw hM f_a0_X1_0 f_v3_X0_5 (lv_sub hl [3, 4, 2, 1, 0] rfl)
  · simp only [fa_lt, fa_le, fa_eq] at c_35
    refine lv_aload_n hx hb dX1_readWay_38 rfl (lv_at hl 4 rfl) ?_
    refine lv_iload_n hx hb dX1_readWay_39 rfl (lv_at hl 1 rfl) ?_
    refine lv_iconst (v := 1) hx hb dX1_readWay_40 (by decide) ?_
    refine t_callv (va_runV (As := [.int v14, .int 1]) (rest := []) ⟨hx, hb, hml, hown, hts⟩ (t_X9_fail l dC dI tys κ B w_2 hw.2.2.2.2 a1 k_a1 v14 (by omega) (by omega) 1 (by decide) (by decide) H.size) (cwV 2 hts (gUV tw_561 tw_562 tw_563 tw_2 tw_564) rfl rfl rfl (by decide +kernel) ⟨(Nat.le_of_ble_eq_true rfl), (Nat.le_of_ble_eq_true rfl)⟩) ⟨cPre.blind, t_recv hw (ci := 9) k_a1 rfl rfl, cPre.use hw.2.1 hw.1 hw.2.2.1 hE⟩ rfl rfl hl.1 rfl (lv_room (Nat.le_of_ble_eq_true rfl)) dX1_readWay_41 ⟨(Nat.le_of_ble_eq_true rfl), (Nat.le_of_ble_eq_true rfl)⟩) hw hA (fun _ h => h.1) (fun w_5 H locs hp hw => ?_)
    obtain ⟨_, hm, ⟨v41f, l_v41f, h_v41f, f_a1_X9_3⟩⟩ := hp
    have zc_1 := li_1
    have hM := hM.trans hm (by decide) (by decide)
    have f_a0_X1_0 := hm.1 _ _ _ _ f_a0_X1_0 (by decide)
    have f_v3_X0_5 := hm.1 _ _ _ _ f_v3_X0_5 (by decide)
    exact J44 _ _ _ w_5 hw hM f_a0_X1_0 f_v3_X0_5 (lv_sub hl [3, 4, 2, 1, 0] rfl)
set_option maxHeartbeats 4000000 in
set_option maxRecDepth 100000 in
theorem t_X1_readNumbers (l : Launch) (dC : Nat → ClassId) (dI : Nat → Nat → Nat) (tys : List (ClassId × FieldType)) (κ : tK) (B : Nat) (ws : va_W) (hT : Ty κ tys B ws) (a0 : Nat) (k_a0 : κ a0 = some 1) (a1 : Nat) (k_a1 : κ a1 = some 9) (a2 : Int32) (f0 : Nat) (k_f0 : κ f0 = some 0) (f_a0_X1_0 : fld ws a0 1 0 (.ref f0)) (f1 : Int32) (l_f1 : 0 ≤ f1.toInt) (h_f1 : f1.toInt ≤ 6) (f_f0_X0_3 : fld ws f0 0 3 (.int f1)) (f2 : Int32) (l_f2 : 0 ≤ f2.toInt) (h_f2 : f2.toInt ≤ 4) (f_f0_X0_4 : fld ws f0 0 4 (.int f2)) (f3 : Int32) (l_f3 : 0 ≤ f3.toInt) (h_f3 : f3.toInt ≤ 6) (f_f0_X0_5 : fld ws f0 0 5 (.int f3)) (hX : (a2.toInt ≠ 1 ∨ f1.toInt ≤ 5) ∧ (a2.toInt ≠ 3 ∨ f2.toInt ≤ 3) ∧ (a2.toInt ≠ 4 ∨ f3.toInt ≤ 5)) (sz : Nat) : Met l yX1_readNumbers (ws_u yX1_readNumbers cX1_readNumbers 3 none) ({ frames := 3, cells := 0, slots := 0, locals := 71 }) (va_Pc [.ref a0, .ref a1, .int a2] (cPre (dC, dI) tys ws sz)) (va_Qv (fun (w : va_W) => Ty κ tys B w ∧ Sm [(0, 1), (0, 2), (0, 3), (0, 4), (0, 5), (9, 2), (9, 3)] [20, 21, 22, 23, 24, 25, 26, 27, 28, 29] κ ws w) (fun w t => cPost (dC, dI) tys w (va_A ws sz) t) (va_A ws sz)) 0 0 (va_A ws sz) := by
  refine Met.ofW (cc := cX1_readNumbers) (maxL := 3) (ret := none) (by decide) rfl ?_
  intro p e s m args below meth c s₁ B0 hml hv
  obtain ⟨rfl, hsz, hP, hK, hD0, hE⟩ := hv
  have hx := B0.exec
  have hb := B0.bytes
  have hr := B0.returns
  have hts0 := atoms_spec (ws := ws_u yX1_readNumbers cX1_readNumbers 3 none) B0.pre
  have hts : ∀ w ∈ gT, w.before _ s = true := fun w h => hts0 w (List.mem_cons_of_mem _ h)
  have hown : s.vm.findClass RX1 = some m.cls := findClass_of_methodNamed B0.named
  have hlocks := B0.notSynchronized
  subst hsz
  have hD := hD0.self (sz := s.heap.size)
  generalize hAe : va_A ws s.heap.size = A at hD ⊢
  have hA : ∀ q : Nat, s.heap.size ≤ q → A q := fun q h => by rw [← hAe]; exact Or.inr h
  have hw : tW (dC, dI) tys κ B A s ws s.heap [] := ⟨hK, hP, hD, va_S.rf, hT⟩
  have hM : Sm [(0, 1), (0, 2), (0, 3), (0, 4), (0, 5), (9, 2), (9, 3)] [20, 21, 22, 23, 24, 25, 26, 27, 28, 29] κ ws ws := Sm.rf
  clear hP hK hD hD0 hts0
  have l_a2 := i32_lo a2
  have h_a2 := i32_hi a2
  have hl := lv_entry ([.ref a0, .ref a1, .int a2]) (n := 3) (Nat.le_of_ble_eq_true rfl)
  rw [lg_entry_eq]
  generalize (lg_sl ([.ref a0, .ref a1, .int a2]) ++ List.replicate (3 - (lg_sl ([.ref a0, .ref a1, .int a2])).length) Slot.unset).toArray = ls at hl ⊢
  have hl : lv_has ls 3 [(0, .ref a0), (1, .ref a1), (2, .int a2)] := hl
  refine t_start (fun QQ hQ => ?_)
  refine lv_iload_n hx hb dX1_readNumbers_0 rfl (lv_at hl 2 rfl) ?_
  rcases Classical.em (a2.toInt = 0) with c_1_0 | c_1_0
  · refine lv_tableIn (tgt := 40) hx hb dX1_readNumbers_1 (by omega) (by omega) (by rw [c_1_0]; rfl) (by decide) ?_
    refine lv_aload_n hx hb dX1_readNumbers_40 rfl (lv_at hl 0 rfl) ?_
    refine t_getk (ci := 1) (C := RX1) (T := TX1) (N := 1) hx hb hts iX1 hown hw rfl 0 (by decide) (hts _ tw_156) (fun _ h9 => h9) dX1_readNumbers_41 f_a0_X1_0 ?_
    refine lv_aload_n hx hb dX1_readNumbers_44 rfl (lv_at hl 1 rfl) ?_
    refine lv_iconst (v := 1) hx hb dX1_readNumbers_45 (by decide) ?_
    refine lv_bipush (v := 40) hx hb dX1_readNumbers_46 (by decide) ?_
    refine t_calli (va_runV (As := [.int 1, .int 40]) (rest := [.ref f0]) ⟨hx, hb, hml, hown, hts⟩ (t_X9_takeNumber l dC dI tys κ B ws hw.2.2.2.2 a1 k_a1 1 (by decide) (by decide) 40 (by decide) (by decide) s.heap.size) (cwV 2 hts (gUV tw_573 tw_574 tw_575 tw_2 tw_576) rfl rfl rfl (by decide +kernel) ⟨(Nat.le_of_ble_eq_true rfl), (Nat.le_of_ble_eq_true rfl)⟩) ⟨cPre.blind, t_recv hw (ci := 9) k_a1 rfl rfl, cPre.use hw.2.1 hw.1 hw.2.2.1 hE⟩ rfl rfl hl.1 rfl (lv_room (Nat.le_of_ble_eq_true rfl)) dX1_readNumbers_48 ⟨(Nat.le_of_ble_eq_true rfl), (Nat.le_of_ble_eq_true rfl)⟩) hw hA (fun _ _ h => h.2.2.1) (fun v48 w_1 H locs hp hw => ?_)
    obtain ⟨l_v48, h_v48, _, hm, x_v48_0⟩ := hp
    have zc_1 := li_1
    have zc_40 := li_40
    have hM := hM.trans hm (by decide) (by decide)
    have f_a0_X1_0 := hm.1 _ _ _ _ f_a0_X1_0 (by decide)
    have f_f0_X0_3 := hm.1 _ _ _ _ f_f0_X0_3 (by decide)
    have f_f0_X0_4 := hm.1 _ _ _ _ f_f0_X0_4 (by decide)
    have f_f0_X0_5 := hm.1 _ _ _ _ f_f0_X0_5 (by decide)
    refine t_put (ci := 0) (C := RX0) (T := TX0) (N := 16) (v := .int v48) hx hb hts iX0 tyX0 tyX0_ok nmX0 hown hw k_f0 rfl rfl rfl 1 (by decide) (hts _ tw_70) (fun _ h9 => h9) rfl (tyX0_ok 1 (by decide)) rfl rfl (okV.int rfl (by omega) (by omega)) dX1_readNumbers_51 (fun w_2 H locs hw u => ?_)
    have hM := hM.up1 u (by decide)
    have f_a0_X1_0 := u.1 _ _ _ _ f_a0_X1_0 (Or.inr (Or.inl (by decide)))
    have f_f0_X0_3 := u.1 _ _ _ _ f_f0_X0_3 (Or.inr (Or.inr (by decide)))
    have f_f0_X0_4 := u.1 _ _ _ _ f_f0_X0_4 (Or.inr (Or.inr (by decide)))
    have f_f0_X0_5 := u.1 _ _ _ _ f_f0_X0_5 (Or.inr (Or.inr (by decide)))
    have f_f0_X0_1 := u.2.2
    refine lv_aload_n hx hb dX1_readNumbers_54 rfl (lv_at hl 0 rfl) ?_
    refine t_getk (ci := 1) (C := RX1) (T := TX1) (N := 1) hx hb hts iX1 hown hw rfl 0 (by decide) (hts _ tw_156) (fun _ h9 => h9) dX1_readNumbers_55 f_a0_X1_0 ?_
    refine lv_aload_n hx hb dX1_readNumbers_58 rfl (lv_at hl 1 rfl) ?_
    refine lv_iconst (v := 0) hx hb dX1_readNumbers_59 (by decide) ?_
    refine lv_bipush (v := 24) hx hb dX1_readNumbers_60 (by decide) ?_
    refine t_calli (va_runV (As := [.int 0, .int 24]) (rest := [.ref f0]) ⟨hx, hb, hml, hown, hts⟩ (t_X9_takeNumber l dC dI tys κ B w_2 hw.2.2.2.2 a1 k_a1 0 (by decide) (by decide) 24 (by decide) (by decide) H.size) (cwV 2 hts (gUV tw_573 tw_574 tw_575 tw_2 tw_576) rfl rfl rfl (by decide +kernel) ⟨(Nat.le_of_ble_eq_true rfl), (Nat.le_of_ble_eq_true rfl)⟩) ⟨cPre.blind, t_recv hw (ci := 9) k_a1 rfl rfl, cPre.use hw.2.1 hw.1 hw.2.2.1 hE⟩ rfl rfl hl.1 rfl (lv_room (Nat.le_of_ble_eq_true rfl)) dX1_readNumbers_62 ⟨(Nat.le_of_ble_eq_true rfl), (Nat.le_of_ble_eq_true rfl)⟩) hw hA (fun _ _ h => h.2.2.1) (fun v62 w_3 H locs hp hw => ?_)
    obtain ⟨l_v62, h_v62, _, hm, x_v62_0⟩ := hp
    have zc_0 := li_0
    have zc_24 := li_24
    have hM := hM.trans hm (by decide) (by decide)
    have f_a0_X1_0 := hm.1 _ _ _ _ f_a0_X1_0 (by decide)
    have f_f0_X0_3 := hm.1 _ _ _ _ f_f0_X0_3 (by decide)
    have f_f0_X0_4 := hm.1 _ _ _ _ f_f0_X0_4 (by decide)
    have f_f0_X0_5 := hm.1 _ _ _ _ f_f0_X0_5 (by decide)
    have f_f0_X0_1 := hm.1 _ _ _ _ f_f0_X0_1 (by decide)
    refine t_put (ci := 0) (C := RX0) (T := TX0) (N := 16) (v := .int v62) hx hb hts iX0 tyX0 tyX0_ok nmX0 hown hw k_f0 rfl rfl rfl 2 (by decide) (hts _ tw_73) (fun _ h9 => h9) rfl (tyX0_ok 2 (by decide)) rfl rfl (okV.int rfl (by omega) (by omega)) dX1_readNumbers_65 (fun w_4 H locs hw u => ?_)
    have hM := hM.up1 u (by decide)
    have f_a0_X1_0 := u.1 _ _ _ _ f_a0_X1_0 (Or.inr (Or.inl (by decide)))
    have f_f0_X0_3 := u.1 _ _ _ _ f_f0_X0_3 (Or.inr (Or.inr (by decide)))
    have f_f0_X0_4 := u.1 _ _ _ _ f_f0_X0_4 (Or.inr (Or.inr (by decide)))
    have f_f0_X0_5 := u.1 _ _ _ _ f_f0_X0_5 (Or.inr (Or.inr (by decide)))
    have f_f0_X0_1 := u.1 _ _ _ _ f_f0_X0_1 (Or.inr (Or.inr (by decide)))
    have f_f0_X0_2 := u.2.2
    refine lv_goto (tgt := 304) hx hb dX1_readNumbers_68 (by decide) ?_
    rw [hQ]
    refine W.widen (k := 0) (n := 0) (Nat.le_refl _) (Nat.le_refl _) ?_
    exact W.vret hx hb hr (fun t ht hW => ⟨⟨w_4, rfl, ⟨hw.2.2.2.2, hM⟩, by rw [ht]; exact hw.2.1, va_K.moved hW.alike hw.1, hw.2.2.1⟩, hw.2.2.2.1.F ht⟩) hw.2.2.2.1.2.2 dX1_readNumbers_304
  rcases Classical.em (a2.toInt = 1) with c_1_1 | c_1_1
  · refine lv_tableIn (tgt := 71) hx hb dX1_readNumbers_1 (by omega) (by omega) (by rw [c_1_1]; rfl) (by decide) ?_
    refine lv_aload_n hx hb dX1_readNumbers_71 rfl (lv_at hl 0 rfl) ?_
    refine t_getk (ci := 1) (C := RX1) (T := TX1) (N := 1) hx hb hts iX1 hown hw rfl 0 (by decide) (hts _ tw_156) (fun _ h9 => h9) dX1_readNumbers_72 f_a0_X1_0 ?_
    refine t_getr (k1 := 20) (ci := 0) (C := RX0) (T := TX0) (N := 16) hx hb hts iX0 hown hw k_f0 rfl rfl rfl 6 (by decide) (hts _ tw_92) (fun _ h9 => h9) dX1_readNumbers_75 rfl (fun v75 k_v75 f_f0_X0_6 => ?_)
    refine lv_aload_n hx hb dX1_readNumbers_78 rfl (lv_at hl 0 rfl) ?_
    refine t_getk (ci := 1) (C := RX1) (T := TX1) (N := 1) hx hb hts iX1 hown hw rfl 0 (by decide) (hts _ tw_156) (fun _ h9 => h9) dX1_readNumbers_79 f_a0_X1_0 ?_
    refine t_getk (ci := 0) (C := RX0) (T := TX0) (N := 16) hx hb hts iX0 hown hw rfl 3 (by decide) (hts _ tw_79) (fun _ h9 => h9) dX1_readNumbers_82 f_f0_X0_3 ?_
    refine lv_aload_n hx hb dX1_readNumbers_85 rfl (lv_at hl 1 rfl) ?_
    refine lv_iconst (v := 1) hx hb dX1_readNumbers_86 (by decide) ?_
    refine lv_bipush (v := 99) hx hb dX1_readNumbers_87 (by decide) ?_
    refine t_calli (va_runV (As := [.int 1, .int 99]) (rest := [.int f1, .ref v75]) ⟨hx, hb, hml, hown, hts⟩ (t_X9_takeNumber l dC dI tys κ B ws hw.2.2.2.2 a1 k_a1 1 (by decide) (by decide) 99 (by decide) (by decide) s.heap.size) (cwV 2 hts (gUV tw_573 tw_574 tw_575 tw_2 tw_576) rfl rfl rfl (by decide +kernel) ⟨(Nat.le_of_ble_eq_true rfl), (Nat.le_of_ble_eq_true rfl)⟩) ⟨cPre.blind, t_recv hw (ci := 9) k_a1 rfl rfl, cPre.use hw.2.1 hw.1 hw.2.2.1 hE⟩ rfl rfl hl.1 rfl (lv_room (Nat.le_of_ble_eq_true rfl)) dX1_readNumbers_89 ⟨(Nat.le_of_ble_eq_true rfl), (Nat.le_of_ble_eq_true rfl)⟩) hw hA (fun _ _ h => h.2.2.1) (fun v89 w_5 H locs hp hw => ?_)
    obtain ⟨l_v89, h_v89, _, hm, x_v89_0⟩ := hp
    have zc_1 := li_1
    have zc_99 := li_99
    have hM := hM.trans hm (by decide) (by decide)
    have f_a0_X1_0 := hm.1 _ _ _ _ f_a0_X1_0 (by decide)
    have f_f0_X0_3 := hm.1 _ _ _ _ f_f0_X0_3 (by decide)
    have f_f0_X0_4 := hm.1 _ _ _ _ f_f0_X0_4 (by decide)
    have f_f0_X0_5 := hm.1 _ _ _ _ f_f0_X0_5 (by decide)
    have f_f0_X0_6 := hm.1 _ _ _ _ f_f0_X0_6 (by decide)
    refine t_iast hx hb hw k_v75 rfl rfl (by omega) (show f1.toInt < 6 by omega) (i32_lo _) (i32_hi _) dX1_readNumbers_92 (fun w_6 H locs hw u => ?_)
    have hM := hM.up3 u k_v75 (by decide)
    have f_a0_X1_0 := u.1 _ _ _ _ f_a0_X1_0
    have f_f0_X0_3 := u.1 _ _ _ _ f_f0_X0_3
    have f_f0_X0_4 := u.1 _ _ _ _ f_f0_X0_4
    have f_f0_X0_5 := u.1 _ _ _ _ f_f0_X0_5
    have f_f0_X0_6 := u.1 _ _ _ _ f_f0_X0_6
    refine lv_aload_n hx hb dX1_readNumbers_93 rfl (lv_at hl 0 rfl) ?_
    refine t_getk (ci := 1) (C := RX1) (T := TX1) (N := 1) hx hb hts iX1 hown hw rfl 0 (by decide) (hts _ tw_156) (fun _ h9 => h9) dX1_readNumbers_94 f_a0_X1_0 ?_
    refine t_getr (k1 := 21) (ci := 0) (C := RX0) (T := TX0) (N := 16) hx hb hts iX0 hown hw k_f0 rfl rfl rfl 7 (by decide) (hts _ tw_95) (fun _ h9 => h9) dX1_readNumbers_97 rfl (fun v97 k_v97 f_f0_X0_7 => ?_)
    refine lv_aload_n hx hb dX1_readNumbers_100 rfl (lv_at hl 0 rfl) ?_
    refine t_getk (ci := 1) (C := RX1) (T := TX1) (N := 1) hx hb hts iX1 hown hw rfl 0 (by decide) (hts _ tw_156) (fun _ h9 => h9) dX1_readNumbers_101 f_a0_X1_0 ?_
    refine t_getk (ci := 0) (C := RX0) (T := TX0) (N := 16) hx hb hts iX0 hown hw rfl 3 (by decide) (hts _ tw_79) (fun _ h9 => h9) dX1_readNumbers_104 f_f0_X0_3 ?_
    refine lv_aload_n hx hb dX1_readNumbers_107 rfl (lv_at hl 1 rfl) ?_
    refine lv_iconst (v := 0) hx hb dX1_readNumbers_108 (by decide) ?_
    refine lv_bipush (v := 20) hx hb dX1_readNumbers_109 (by decide) ?_
    refine t_calli (va_runV (As := [.int 0, .int 20]) (rest := [.int f1, .ref v97]) ⟨hx, hb, hml, hown, hts⟩ (t_X9_takeNumber l dC dI tys κ B w_6 hw.2.2.2.2 a1 k_a1 0 (by decide) (by decide) 20 (by decide) (by decide) H.size) (cwV 2 hts (gUV tw_573 tw_574 tw_575 tw_2 tw_576) rfl rfl rfl (by decide +kernel) ⟨(Nat.le_of_ble_eq_true rfl), (Nat.le_of_ble_eq_true rfl)⟩) ⟨cPre.blind, t_recv hw (ci := 9) k_a1 rfl rfl, cPre.use hw.2.1 hw.1 hw.2.2.1 hE⟩ rfl rfl hl.1 rfl (lv_room (Nat.le_of_ble_eq_true rfl)) dX1_readNumbers_111 ⟨(Nat.le_of_ble_eq_true rfl), (Nat.le_of_ble_eq_true rfl)⟩) hw hA (fun _ _ h => h.2.2.1) (fun v111 w_7 H locs hp hw => ?_)
    obtain ⟨l_v111, h_v111, _, hm, x_v111_0⟩ := hp
    have zc_0 := li_0
    have zc_20 := li_20
    have hM := hM.trans hm (by decide) (by decide)
    have f_a0_X1_0 := hm.1 _ _ _ _ f_a0_X1_0 (by decide)
    have f_f0_X0_3 := hm.1 _ _ _ _ f_f0_X0_3 (by decide)
    have f_f0_X0_4 := hm.1 _ _ _ _ f_f0_X0_4 (by decide)
    have f_f0_X0_5 := hm.1 _ _ _ _ f_f0_X0_5 (by decide)
    have f_f0_X0_6 := hm.1 _ _ _ _ f_f0_X0_6 (by decide)
    have f_f0_X0_7 := hm.1 _ _ _ _ f_f0_X0_7 (by decide)
    refine t_iast hx hb hw k_v97 rfl rfl (by omega) (show f1.toInt < 6 by omega) (i32_lo _) (i32_hi _) dX1_readNumbers_114 (fun w_8 H locs hw u => ?_)
    have hM := hM.up3 u k_v97 (by decide)
    have f_a0_X1_0 := u.1 _ _ _ _ f_a0_X1_0
    have f_f0_X0_3 := u.1 _ _ _ _ f_f0_X0_3
    have f_f0_X0_4 := u.1 _ _ _ _ f_f0_X0_4
    have f_f0_X0_5 := u.1 _ _ _ _ f_f0_X0_5
    have f_f0_X0_6 := u.1 _ _ _ _ f_f0_X0_6
    have f_f0_X0_7 := u.1 _ _ _ _ f_f0_X0_7
    refine lv_aload_n hx hb dX1_readNumbers_115 rfl (lv_at hl 0 rfl) ?_
    refine t_getk (ci := 1) (C := RX1) (T := TX1) (N := 1) hx hb hts iX1 hown hw rfl 0 (by decide) (hts _ tw_156) (fun _ h9 => h9) dX1_readNumbers_116 f_a0_X1_0 ?_
    refine t_getr (k1 := 22) (ci := 0) (C := RX0) (T := TX0) (N := 16) hx hb hts iX0 hown hw k_f0 rfl rfl rfl 8 (by decide) (hts _ tw_98) (fun _ h9 => h9) dX1_readNumbers_119 rfl (fun v119 k_v119 f_f0_X0_8 => ?_)
    refine lv_aload_n hx hb dX1_readNumbers_122 rfl (lv_at hl 0 rfl) ?_
    refine t_getk (ci := 1) (C := RX1) (T := TX1) (N := 1) hx hb hts iX1 hown hw rfl 0 (by decide) (hts _ tw_156) (fun _ h9 => h9) dX1_readNumbers_123 f_a0_X1_0 ?_
    refine t_getk (ci := 0) (C := RX0) (T := TX0) (N := 16) hx hb hts iX0 hown hw rfl 3 (by decide) (hts _ tw_79) (fun _ h9 => h9) dX1_readNumbers_126 f_f0_X0_3 ?_
    refine lv_aload_n hx hb dX1_readNumbers_129 rfl (lv_at hl 1 rfl) ?_
    refine lv_iconst (v := 0) hx hb dX1_readNumbers_130 (by decide) ?_
    refine lv_bipush (v := 9) hx hb dX1_readNumbers_131 (by decide) ?_
    refine t_calli (va_runV (As := [.int 0, .int 9]) (rest := [.int f1, .ref v119]) ⟨hx, hb, hml, hown, hts⟩ (t_X9_takeNumber l dC dI tys κ B w_8 hw.2.2.2.2 a1 k_a1 0 (by decide) (by decide) 9 (by decide) (by decide) H.size) (cwV 2 hts (gUV tw_573 tw_574 tw_575 tw_2 tw_576) rfl rfl rfl (by decide +kernel) ⟨(Nat.le_of_ble_eq_true rfl), (Nat.le_of_ble_eq_true rfl)⟩) ⟨cPre.blind, t_recv hw (ci := 9) k_a1 rfl rfl, cPre.use hw.2.1 hw.1 hw.2.2.1 hE⟩ rfl rfl hl.1 rfl (lv_room (Nat.le_of_ble_eq_true rfl)) dX1_readNumbers_133 ⟨(Nat.le_of_ble_eq_true rfl), (Nat.le_of_ble_eq_true rfl)⟩) hw hA (fun _ _ h => h.2.2.1) (fun v133 w_9 H locs hp hw => ?_)
    obtain ⟨l_v133, h_v133, _, hm, x_v133_0⟩ := hp
    have zc_0 := li_0
    have zc_9 := li_9
    have hM := hM.trans hm (by decide) (by decide)
    have f_a0_X1_0 := hm.1 _ _ _ _ f_a0_X1_0 (by decide)
    have f_f0_X0_3 := hm.1 _ _ _ _ f_f0_X0_3 (by decide)
    have f_f0_X0_4 := hm.1 _ _ _ _ f_f0_X0_4 (by decide)
    have f_f0_X0_5 := hm.1 _ _ _ _ f_f0_X0_5 (by decide)
    have f_f0_X0_6 := hm.1 _ _ _ _ f_f0_X0_6 (by decide)
    have f_f0_X0_7 := hm.1 _ _ _ _ f_f0_X0_7 (by decide)
    have f_f0_X0_8 := hm.1 _ _ _ _ f_f0_X0_8 (by decide)
    refine t_iast hx hb hw k_v119 rfl rfl (by omega) (show f1.toInt < 6 by omega) (i32_lo _) (i32_hi _) dX1_readNumbers_136 (fun w_10 H locs hw u => ?_)
    have hM := hM.up3 u k_v119 (by decide)
    have f_a0_X1_0 := u.1 _ _ _ _ f_a0_X1_0
    have f_f0_X0_3 := u.1 _ _ _ _ f_f0_X0_3
    have f_f0_X0_4 := u.1 _ _ _ _ f_f0_X0_4
    have f_f0_X0_5 := u.1 _ _ _ _ f_f0_X0_5
    have f_f0_X0_6 := u.1 _ _ _ _ f_f0_X0_6
    have f_f0_X0_7 := u.1 _ _ _ _ f_f0_X0_7
    have f_f0_X0_8 := u.1 _ _ _ _ f_f0_X0_8
    refine lv_aload_n hx hb dX1_readNumbers_137 rfl (lv_at hl 0 rfl) ?_
    refine t_getk (ci := 1) (C := RX1) (T := TX1) (N := 1) hx hb hts iX1 hown hw rfl 0 (by decide) (hts _ tw_156) (fun _ h9 => h9) dX1_readNumbers_138 f_a0_X1_0 ?_
    refine lv_dup hx hb dX1_readNumbers_141 rfl ?_
    refine t_getk (ci := 0) (C := RX0) (T := TX0) (N := 16) hx hb hts iX0 hown hw rfl 3 (by decide) (hts _ tw_79) (fun _ h9 => h9) dX1_readNumbers_142 f_f0_X0_3 ?_
    refine lv_iconst (v := 1) hx hb dX1_readNumbers_145 (by decide) ?_
    refine lv_iadd hx hb dX1_readNumbers_146 ?_
    refine lv_topi (fun v146 e_v146 => ?_)
    have e_v146 : v146.toInt = f1.toInt + 1 := ad_i e_v146 rfl li_1 (by omega) (by omega)
    refine t_put (ci := 0) (C := RX0) (T := TX0) (N := 16) (v := .int v146) hx hb hts iX0 tyX0 tyX0_ok nmX0 hown hw k_f0 rfl rfl rfl 3 (by decide) (hts _ tw_79) (fun _ h9 => h9) rfl (tyX0_ok 3 (by decide)) rfl rfl (okV.int rfl (by omega) (by omega)) dX1_readNumbers_147 (fun w_11 H locs hw u => ?_)
    have hM := hM.up1 u (by decide)
    have f_a0_X1_0 := u.1 _ _ _ _ f_a0_X1_0 (Or.inr (Or.inl (by decide)))
    have f_f0_X0_3 := u.2.2
    have f_f0_X0_4 := u.1 _ _ _ _ f_f0_X0_4 (Or.inr (Or.inr (by decide)))
    have f_f0_X0_5 := u.1 _ _ _ _ f_f0_X0_5 (Or.inr (Or.inr (by decide)))
    have f_f0_X0_6 := u.1 _ _ _ _ f_f0_X0_6 (Or.inr (Or.inr (by decide)))
    have f_f0_X0_7 := u.1 _ _ _ _ f_f0_X0_7 (Or.inr (Or.inr (by decide)))
    have f_f0_X0_8 := u.1 _ _ _ _ f_f0_X0_8 (Or.inr (Or.inr (by decide)))
    refine lv_goto (tgt := 304) hx hb dX1_readNumbers_150 (by decide) ?_
    rw [hQ]
    refine W.widen (k := 0) (n := 0) (Nat.le_refl _) (Nat.le_refl _) ?_
    exact W.vret hx hb hr (fun t ht hW => ⟨⟨w_11, rfl, ⟨hw.2.2.2.2, hM⟩, by rw [ht]; exact hw.2.1, va_K.moved hW.alike hw.1, hw.2.2.1⟩, hw.2.2.2.1.F ht⟩) hw.2.2.2.1.2.2 dX1_readNumbers_304
  rcases Classical.em (a2.toInt = 2) with c_1_2 | c_1_2
  · refine lv_tableIn (tgt := 153) hx hb dX1_readNumbers_1 (by omega) (by omega) (by rw [c_1_2]; rfl) (by decide) ?_
    refine lv_aload_n hx hb dX1_readNumbers_153 rfl (lv_at hl 0 rfl) ?_
    refine lv_aload_n hx hb dX1_readNumbers_154 rfl (lv_at hl 1 rfl) ?_
    refine t_callv (va_runV (As := [.ref a1]) (rest := []) ⟨hx, hb, hml, hown, hts⟩ (t_X1_readLikes l dC dI tys κ B ws hw.2.2.2.2 a0 k_a0 a1 k_a1 s.heap.size) (cwV 1 hts (gUV tw_582 tw_584 ts_0_5 tw_3 tw_585) rfl rfl rfl (by decide +kernel) ⟨(Nat.le_of_ble_eq_true rfl), (Nat.le_of_ble_eq_true rfl)⟩) ⟨cPre.blind, t_recv hw (ci := 1) k_a0 rfl rfl, cPre.use hw.2.1 hw.1 hw.2.2.1 hE⟩ rfl rfl hl.1 rfl (lv_room (Nat.le_of_ble_eq_true rfl)) dX1_readNumbers_155 ⟨(Nat.le_of_ble_eq_true rfl), (Nat.le_of_ble_eq_true rfl)⟩) hw hA (fun _ h => h.1) (fun w_12 H locs hp hw => ?_)
    obtain ⟨_, hm⟩ := hp
    have hM := hM.trans hm (by decide) (by decide)
    have f_a0_X1_0 := hm.1 _ _ _ _ f_a0_X1_0 (by decide)
    have f_f0_X0_3 := hm.1 _ _ _ _ f_f0_X0_3 (by decide)
    have f_f0_X0_4 := hm.1 _ _ _ _ f_f0_X0_4 (by decide)
    have f_f0_X0_5 := hm.1 _ _ _ _ f_f0_X0_5 (by decide)
    refine lv_goto (tgt := 304) hx hb dX1_readNumbers_158 (by decide) ?_
    rw [hQ]
    refine W.widen (k := 0) (n := 0) (Nat.le_refl _) (Nat.le_refl _) ?_
    exact W.vret hx hb hr (fun t ht hW => ⟨⟨w_12, rfl, ⟨hw.2.2.2.2, hM⟩, by rw [ht]; exact hw.2.1, va_K.moved hW.alike hw.1, hw.2.2.1⟩, hw.2.2.2.1.F ht⟩) hw.2.2.2.1.2.2 dX1_readNumbers_304
  rcases Classical.em (a2.toInt = 3) with c_1_3 | c_1_3
  · refine lv_tableIn (tgt := 161) hx hb dX1_readNumbers_1 (by omega) (by omega) (by rw [c_1_3]; rfl) (by decide) ?_
    refine lv_aload_n hx hb dX1_readNumbers_161 rfl (lv_at hl 0 rfl) ?_
    refine t_getk (ci := 1) (C := RX1) (T := TX1) (N := 1) hx hb hts iX1 hown hw rfl 0 (by decide) (hts _ tw_156) (fun _ h9 => h9) dX1_readNumbers_162 f_a0_X1_0 ?_
    refine t_getr (k1 := 24) (ci := 0) (C := RX0) (T := TX0) (N := 16) hx hb hts iX0 hown hw k_f0 rfl rfl rfl 10 (by decide) (hts _ tw_107) (fun _ h9 => h9) dX1_readNumbers_165 rfl (fun v165 k_v165 f_f0_X0_10 => ?_)
    refine lv_aload_n hx hb dX1_readNumbers_168 rfl (lv_at hl 0 rfl) ?_
    refine t_getk (ci := 1) (C := RX1) (T := TX1) (N := 1) hx hb hts iX1 hown hw rfl 0 (by decide) (hts _ tw_156) (fun _ h9 => h9) dX1_readNumbers_169 f_a0_X1_0 ?_
    refine t_getk (ci := 0) (C := RX0) (T := TX0) (N := 16) hx hb hts iX0 hown hw rfl 4 (by decide) (hts _ tw_83) (fun _ h9 => h9) dX1_readNumbers_172 f_f0_X0_4 ?_
    refine lv_aload_n hx hb dX1_readNumbers_175 rfl (lv_at hl 1 rfl) ?_
    refine lv_bipush (v := 20) hx hb dX1_readNumbers_176 (by decide) ?_
    refine lv_bipush (v := 99) hx hb dX1_readNumbers_178 (by decide) ?_
    refine t_calli (va_runV (As := [.int 20, .int 99]) (rest := [.int f2, .ref v165]) ⟨hx, hb, hml, hown, hts⟩ (t_X9_takeNumber l dC dI tys κ B ws hw.2.2.2.2 a1 k_a1 20 (by decide) (by decide) 99 (by decide) (by decide) s.heap.size) (cwV 2 hts (gUV tw_573 tw_574 tw_575 tw_2 tw_576) rfl rfl rfl (by decide +kernel) ⟨(Nat.le_of_ble_eq_true rfl), (Nat.le_of_ble_eq_true rfl)⟩) ⟨cPre.blind, t_recv hw (ci := 9) k_a1 rfl rfl, cPre.use hw.2.1 hw.1 hw.2.2.1 hE⟩ rfl rfl hl.1 rfl (lv_room (Nat.le_of_ble_eq_true rfl)) dX1_readNumbers_180 ⟨(Nat.le_of_ble_eq_true rfl), (Nat.le_of_ble_eq_true rfl)⟩) hw hA (fun _ _ h => h.2.2.1) (fun v180 w_13 H locs hp hw => ?_)
    obtain ⟨l_v180, h_v180, _, hm, x_v180_0⟩ := hp
    have zc_20 := li_20
    have zc_99 := li_99
    have hM := hM.trans hm (by decide) (by decide)
    have f_a0_X1_0 := hm.1 _ _ _ _ f_a0_X1_0 (by decide)
    have f_f0_X0_3 := hm.1 _ _ _ _ f_f0_X0_3 (by decide)
    have f_f0_X0_4 := hm.1 _ _ _ _ f_f0_X0_4 (by decide)
    have f_f0_X0_5 := hm.1 _ _ _ _ f_f0_X0_5 (by decide)
    have f_f0_X0_10 := hm.1 _ _ _ _ f_f0_X0_10 (by decide)
    refine t_iast hx hb hw k_v165 rfl rfl (by omega) (show f2.toInt < 4 by omega) (i32_lo _) (i32_hi _) dX1_readNumbers_183 (fun w_14 H locs hw u => ?_)
    have hM := hM.up3 u k_v165 (by decide)
    have f_a0_X1_0 := u.1 _ _ _ _ f_a0_X1_0
    have f_f0_X0_3 := u.1 _ _ _ _ f_f0_X0_3
    have f_f0_X0_4 := u.1 _ _ _ _ f_f0_X0_4
    have f_f0_X0_5 := u.1 _ _ _ _ f_f0_X0_5
    have f_f0_X0_10 := u.1 _ _ _ _ f_f0_X0_10
    refine lv_aload_n hx hb dX1_readNumbers_184 rfl (lv_at hl 0 rfl) ?_
    refine t_getk (ci := 1) (C := RX1) (T := TX1) (N := 1) hx hb hts iX1 hown hw rfl 0 (by decide) (hts _ tw_156) (fun _ h9 => h9) dX1_readNumbers_185 f_a0_X1_0 ?_
    refine t_getr (k1 := 25) (ci := 0) (C := RX0) (T := TX0) (N := 16) hx hb hts iX0 hown hw k_f0 rfl rfl rfl 11 (by decide) (hts _ tw_109) (fun _ h9 => h9) dX1_readNumbers_188 rfl (fun v188 k_v188 f_f0_X0_11 => ?_)
    refine lv_aload_n hx hb dX1_readNumbers_191 rfl (lv_at hl 0 rfl) ?_
    refine t_getk (ci := 1) (C := RX1) (T := TX1) (N := 1) hx hb hts iX1 hown hw rfl 0 (by decide) (hts _ tw_156) (fun _ h9 => h9) dX1_readNumbers_192 f_a0_X1_0 ?_
    refine t_getk (ci := 0) (C := RX0) (T := TX0) (N := 16) hx hb hts iX0 hown hw rfl 4 (by decide) (hts _ tw_83) (fun _ h9 => h9) dX1_readNumbers_195 f_f0_X0_4 ?_
    refine lv_aload_n hx hb dX1_readNumbers_198 rfl (lv_at hl 1 rfl) ?_
    refine lv_iconst (v := 0) hx hb dX1_readNumbers_199 (by decide) ?_
    refine lv_bipush (v := 99) hx hb dX1_readNumbers_200 (by decide) ?_
    refine t_calli (va_runV (As := [.int 0, .int 99]) (rest := [.int f2, .ref v188]) ⟨hx, hb, hml, hown, hts⟩ (t_X9_takeNumber l dC dI tys κ B w_14 hw.2.2.2.2 a1 k_a1 0 (by decide) (by decide) 99 (by decide) (by decide) H.size) (cwV 2 hts (gUV tw_573 tw_574 tw_575 tw_2 tw_576) rfl rfl rfl (by decide +kernel) ⟨(Nat.le_of_ble_eq_true rfl), (Nat.le_of_ble_eq_true rfl)⟩) ⟨cPre.blind, t_recv hw (ci := 9) k_a1 rfl rfl, cPre.use hw.2.1 hw.1 hw.2.2.1 hE⟩ rfl rfl hl.1 rfl (lv_room (Nat.le_of_ble_eq_true rfl)) dX1_readNumbers_202 ⟨(Nat.le_of_ble_eq_true rfl), (Nat.le_of_ble_eq_true rfl)⟩) hw hA (fun _ _ h => h.2.2.1) (fun v202 w_15 H locs hp hw => ?_)
    obtain ⟨l_v202, h_v202, _, hm, x_v202_0⟩ := hp
    have zc_0 := li_0
    have zc_99 := li_99
    have hM := hM.trans hm (by decide) (by decide)
    have f_a0_X1_0 := hm.1 _ _ _ _ f_a0_X1_0 (by decide)
    have f_f0_X0_3 := hm.1 _ _ _ _ f_f0_X0_3 (by decide)
    have f_f0_X0_4 := hm.1 _ _ _ _ f_f0_X0_4 (by decide)
    have f_f0_X0_5 := hm.1 _ _ _ _ f_f0_X0_5 (by decide)
    have f_f0_X0_10 := hm.1 _ _ _ _ f_f0_X0_10 (by decide)
    have f_f0_X0_11 := hm.1 _ _ _ _ f_f0_X0_11 (by decide)
    refine t_iast hx hb hw k_v188 rfl rfl (by omega) (show f2.toInt < 4 by omega) (i32_lo _) (i32_hi _) dX1_readNumbers_205 (fun w_16 H locs hw u => ?_)
    have hM := hM.up3 u k_v188 (by decide)
    have f_a0_X1_0 := u.1 _ _ _ _ f_a0_X1_0
    have f_f0_X0_3 := u.1 _ _ _ _ f_f0_X0_3
    have f_f0_X0_4 := u.1 _ _ _ _ f_f0_X0_4
    have f_f0_X0_5 := u.1 _ _ _ _ f_f0_X0_5
    have f_f0_X0_10 := u.1 _ _ _ _ f_f0_X0_10
    have f_f0_X0_11 := u.1 _ _ _ _ f_f0_X0_11
    refine lv_aload_n hx hb dX1_readNumbers_206 rfl (lv_at hl 0 rfl) ?_
    refine t_getk (ci := 1) (C := RX1) (T := TX1) (N := 1) hx hb hts iX1 hown hw rfl 0 (by decide) (hts _ tw_156) (fun _ h9 => h9) dX1_readNumbers_207 f_a0_X1_0 ?_
    refine lv_dup hx hb dX1_readNumbers_210 rfl ?_
    refine t_getk (ci := 0) (C := RX0) (T := TX0) (N := 16) hx hb hts iX0 hown hw rfl 4 (by decide) (hts _ tw_83) (fun _ h9 => h9) dX1_readNumbers_211 f_f0_X0_4 ?_
    refine lv_iconst (v := 1) hx hb dX1_readNumbers_214 (by decide) ?_
    refine lv_iadd hx hb dX1_readNumbers_215 ?_
    refine lv_topi (fun v215 e_v215 => ?_)
    have e_v215 : v215.toInt = f2.toInt + 1 := ad_i e_v215 rfl li_1 (by omega) (by omega)
    refine t_put (ci := 0) (C := RX0) (T := TX0) (N := 16) (v := .int v215) hx hb hts iX0 tyX0 tyX0_ok nmX0 hown hw k_f0 rfl rfl rfl 4 (by decide) (hts _ tw_83) (fun _ h9 => h9) rfl (tyX0_ok 4 (by decide)) rfl rfl (okV.int rfl (by omega) (by omega)) dX1_readNumbers_216 (fun w_17 H locs hw u => ?_)
    have hM := hM.up1 u (by decide)
    have f_a0_X1_0 := u.1 _ _ _ _ f_a0_X1_0 (Or.inr (Or.inl (by decide)))
    have f_f0_X0_3 := u.1 _ _ _ _ f_f0_X0_3 (Or.inr (Or.inr (by decide)))
    have f_f0_X0_4 := u.2.2
    have f_f0_X0_5 := u.1 _ _ _ _ f_f0_X0_5 (Or.inr (Or.inr (by decide)))
    have f_f0_X0_10 := u.1 _ _ _ _ f_f0_X0_10 (Or.inr (Or.inr (by decide)))
    have f_f0_X0_11 := u.1 _ _ _ _ f_f0_X0_11 (Or.inr (Or.inr (by decide)))
    refine lv_goto (tgt := 304) hx hb dX1_readNumbers_219 (by decide) ?_
    rw [hQ]
    refine W.widen (k := 0) (n := 0) (Nat.le_refl _) (Nat.le_refl _) ?_
    exact W.vret hx hb hr (fun t ht hW => ⟨⟨w_17, rfl, ⟨hw.2.2.2.2, hM⟩, by rw [ht]; exact hw.2.1, va_K.moved hW.alike hw.1, hw.2.2.1⟩, hw.2.2.2.1.F ht⟩) hw.2.2.2.1.2.2 dX1_readNumbers_304
  rcases Classical.em (a2.toInt = 4) with c_1_4 | c_1_4
  · refine lv_tableIn (tgt := 222) hx hb dX1_readNumbers_1 (by omega) (by omega) (by rw [c_1_4]; rfl) (by decide) ?_
    refine lv_aload_n hx hb dX1_readNumbers_222 rfl (lv_at hl 0 rfl) ?_
    refine t_getk (ci := 1) (C := RX1) (T := TX1) (N := 1) hx hb hts iX1 hown hw rfl 0 (by decide) (hts _ tw_156) (fun _ h9 => h9) dX1_readNumbers_223 f_a0_X1_0 ?_
    refine t_getr (k1 := 26) (ci := 0) (C := RX0) (T := TX0) (N := 16) hx hb hts iX0 hown hw k_f0 rfl rfl rfl 12 (by decide) (hts _ tw_113) (fun _ h9 => h9) dX1_readNumbers_226 rfl (fun v226 k_v226 f_f0_X0_12 => ?_)
    refine lv_aload_n hx hb dX1_readNumbers_229 rfl (lv_at hl 0 rfl) ?_
    refine t_getk (ci := 1) (C := RX1) (T := TX1) (N := 1) hx hb hts iX1 hown hw rfl 0 (by decide) (hts _ tw_156) (fun _ h9 => h9) dX1_readNumbers_230 f_a0_X1_0 ?_
    refine t_getk (ci := 0) (C := RX0) (T := TX0) (N := 16) hx hb hts iX0 hown hw rfl 5 (by decide) (hts _ tw_87) (fun _ h9 => h9) dX1_readNumbers_233 f_f0_X0_5 ?_
    refine lv_aload_n hx hb dX1_readNumbers_236 rfl (lv_at hl 1 rfl) ?_
    refine lv_iconst (v := 0) hx hb dX1_readNumbers_237 (by decide) ?_
    refine lv_bipush (v := 60) hx hb dX1_readNumbers_238 (by decide) ?_
    refine t_calli (va_runV (As := [.int 0, .int 60]) (rest := [.int f3, .ref v226]) ⟨hx, hb, hml, hown, hts⟩ (t_X9_takeNumber l dC dI tys κ B ws hw.2.2.2.2 a1 k_a1 0 (by decide) (by decide) 60 (by decide) (by decide) s.heap.size) (cwV 2 hts (gUV tw_573 tw_574 tw_575 tw_2 tw_576) rfl rfl rfl (by decide +kernel) ⟨(Nat.le_of_ble_eq_true rfl), (Nat.le_of_ble_eq_true rfl)⟩) ⟨cPre.blind, t_recv hw (ci := 9) k_a1 rfl rfl, cPre.use hw.2.1 hw.1 hw.2.2.1 hE⟩ rfl rfl hl.1 rfl (lv_room (Nat.le_of_ble_eq_true rfl)) dX1_readNumbers_240 ⟨(Nat.le_of_ble_eq_true rfl), (Nat.le_of_ble_eq_true rfl)⟩) hw hA (fun _ _ h => h.2.2.1) (fun v240 w_18 H locs hp hw => ?_)
    obtain ⟨l_v240, h_v240, _, hm, x_v240_0⟩ := hp
    have zc_0 := li_0
    have zc_60 := li_60
    have hM := hM.trans hm (by decide) (by decide)
    have f_a0_X1_0 := hm.1 _ _ _ _ f_a0_X1_0 (by decide)
    have f_f0_X0_3 := hm.1 _ _ _ _ f_f0_X0_3 (by decide)
    have f_f0_X0_4 := hm.1 _ _ _ _ f_f0_X0_4 (by decide)
    have f_f0_X0_5 := hm.1 _ _ _ _ f_f0_X0_5 (by decide)
    have f_f0_X0_12 := hm.1 _ _ _ _ f_f0_X0_12 (by decide)
    refine t_iast hx hb hw k_v226 rfl rfl (by omega) (show f3.toInt < 6 by omega) (i32_lo _) (i32_hi _) dX1_readNumbers_243 (fun w_19 H locs hw u => ?_)
    have hM := hM.up3 u k_v226 (by decide)
    have f_a0_X1_0 := u.1 _ _ _ _ f_a0_X1_0
    have f_f0_X0_3 := u.1 _ _ _ _ f_f0_X0_3
    have f_f0_X0_4 := u.1 _ _ _ _ f_f0_X0_4
    have f_f0_X0_5 := u.1 _ _ _ _ f_f0_X0_5
    have f_f0_X0_12 := u.1 _ _ _ _ f_f0_X0_12
    refine lv_aload_n hx hb dX1_readNumbers_244 rfl (lv_at hl 0 rfl) ?_
    refine t_getk (ci := 1) (C := RX1) (T := TX1) (N := 1) hx hb hts iX1 hown hw rfl 0 (by decide) (hts _ tw_156) (fun _ h9 => h9) dX1_readNumbers_245 f_a0_X1_0 ?_
    refine t_getr (k1 := 27) (ci := 0) (C := RX0) (T := TX0) (N := 16) hx hb hts iX0 hown hw k_f0 rfl rfl rfl 13 (by decide) (hts _ tw_116) (fun _ h9 => h9) dX1_readNumbers_248 rfl (fun v248 k_v248 f_f0_X0_13 => ?_)
    refine lv_aload_n hx hb dX1_readNumbers_251 rfl (lv_at hl 0 rfl) ?_
    refine t_getk (ci := 1) (C := RX1) (T := TX1) (N := 1) hx hb hts iX1 hown hw rfl 0 (by decide) (hts _ tw_156) (fun _ h9 => h9) dX1_readNumbers_252 f_a0_X1_0 ?_
    refine t_getk (ci := 0) (C := RX0) (T := TX0) (N := 16) hx hb hts iX0 hown hw rfl 5 (by decide) (hts _ tw_87) (fun _ h9 => h9) dX1_readNumbers_255 f_f0_X0_5 ?_
    refine lv_aload_n hx hb dX1_readNumbers_258 rfl (lv_at hl 1 rfl) ?_
    refine lv_iconst (v := 0) hx hb dX1_readNumbers_259 (by decide) ?_
    refine lv_bipush (v := 9) hx hb dX1_readNumbers_260 (by decide) ?_
    refine t_calli (va_runV (As := [.int 0, .int 9]) (rest := [.int f3, .ref v248]) ⟨hx, hb, hml, hown, hts⟩ (t_X9_takeNumber l dC dI tys κ B w_19 hw.2.2.2.2 a1 k_a1 0 (by decide) (by decide) 9 (by decide) (by decide) H.size) (cwV 2 hts (gUV tw_573 tw_574 tw_575 tw_2 tw_576) rfl rfl rfl (by decide +kernel) ⟨(Nat.le_of_ble_eq_true rfl), (Nat.le_of_ble_eq_true rfl)⟩) ⟨cPre.blind, t_recv hw (ci := 9) k_a1 rfl rfl, cPre.use hw.2.1 hw.1 hw.2.2.1 hE⟩ rfl rfl hl.1 rfl (lv_room (Nat.le_of_ble_eq_true rfl)) dX1_readNumbers_262 ⟨(Nat.le_of_ble_eq_true rfl), (Nat.le_of_ble_eq_true rfl)⟩) hw hA (fun _ _ h => h.2.2.1) (fun v262 w_20 H locs hp hw => ?_)
    obtain ⟨l_v262, h_v262, _, hm, x_v262_0⟩ := hp
    have zc_0 := li_0
    have zc_9 := li_9
    have hM := hM.trans hm (by decide) (by decide)
    have f_a0_X1_0 := hm.1 _ _ _ _ f_a0_X1_0 (by decide)
    have f_f0_X0_3 := hm.1 _ _ _ _ f_f0_X0_3 (by decide)
    have f_f0_X0_4 := hm.1 _ _ _ _ f_f0_X0_4 (by decide)
    have f_f0_X0_5 := hm.1 _ _ _ _ f_f0_X0_5 (by decide)
    have f_f0_X0_12 := hm.1 _ _ _ _ f_f0_X0_12 (by decide)
    have f_f0_X0_13 := hm.1 _ _ _ _ f_f0_X0_13 (by decide)
    refine t_iast hx hb hw k_v248 rfl rfl (by omega) (show f3.toInt < 6 by omega) (i32_lo _) (i32_hi _) dX1_readNumbers_265 (fun w_21 H locs hw u => ?_)
    have hM := hM.up3 u k_v248 (by decide)
    have f_a0_X1_0 := u.1 _ _ _ _ f_a0_X1_0
    have f_f0_X0_3 := u.1 _ _ _ _ f_f0_X0_3
    have f_f0_X0_4 := u.1 _ _ _ _ f_f0_X0_4
    have f_f0_X0_5 := u.1 _ _ _ _ f_f0_X0_5
    have f_f0_X0_12 := u.1 _ _ _ _ f_f0_X0_12
    have f_f0_X0_13 := u.1 _ _ _ _ f_f0_X0_13
    refine lv_aload_n hx hb dX1_readNumbers_266 rfl (lv_at hl 0 rfl) ?_
    refine t_getk (ci := 1) (C := RX1) (T := TX1) (N := 1) hx hb hts iX1 hown hw rfl 0 (by decide) (hts _ tw_156) (fun _ h9 => h9) dX1_readNumbers_267 f_a0_X1_0 ?_
    refine lv_dup hx hb dX1_readNumbers_270 rfl ?_
    refine t_getk (ci := 0) (C := RX0) (T := TX0) (N := 16) hx hb hts iX0 hown hw rfl 5 (by decide) (hts _ tw_87) (fun _ h9 => h9) dX1_readNumbers_271 f_f0_X0_5 ?_
    refine lv_iconst (v := 1) hx hb dX1_readNumbers_274 (by decide) ?_
    refine lv_iadd hx hb dX1_readNumbers_275 ?_
    refine lv_topi (fun v275 e_v275 => ?_)
    have e_v275 : v275.toInt = f3.toInt + 1 := ad_i e_v275 rfl li_1 (by omega) (by omega)
    refine t_put (ci := 0) (C := RX0) (T := TX0) (N := 16) (v := .int v275) hx hb hts iX0 tyX0 tyX0_ok nmX0 hown hw k_f0 rfl rfl rfl 5 (by decide) (hts _ tw_87) (fun _ h9 => h9) rfl (tyX0_ok 5 (by decide)) rfl rfl (okV.int rfl (by omega) (by omega)) dX1_readNumbers_276 (fun w_22 H locs hw u => ?_)
    have hM := hM.up1 u (by decide)
    have f_a0_X1_0 := u.1 _ _ _ _ f_a0_X1_0 (Or.inr (Or.inl (by decide)))
    have f_f0_X0_3 := u.1 _ _ _ _ f_f0_X0_3 (Or.inr (Or.inr (by decide)))
    have f_f0_X0_4 := u.1 _ _ _ _ f_f0_X0_4 (Or.inr (Or.inr (by decide)))
    have f_f0_X0_5 := u.2.2
    have f_f0_X0_12 := u.1 _ _ _ _ f_f0_X0_12 (Or.inr (Or.inr (by decide)))
    have f_f0_X0_13 := u.1 _ _ _ _ f_f0_X0_13 (Or.inr (Or.inr (by decide)))
    refine lv_goto (tgt := 304) hx hb dX1_readNumbers_279 (by decide) ?_
    rw [hQ]
    refine W.widen (k := 0) (n := 0) (Nat.le_refl _) (Nat.le_refl _) ?_
    exact W.vret hx hb hr (fun t ht hW => ⟨⟨w_22, rfl, ⟨hw.2.2.2.2, hM⟩, by rw [ht]; exact hw.2.1, va_K.moved hW.alike hw.1, hw.2.2.1⟩, hw.2.2.2.1.F ht⟩) hw.2.2.2.1.2.2 dX1_readNumbers_304
  rcases Classical.em (a2.toInt = 5) with c_1_5 | c_1_5
  · refine lv_tableIn (tgt := 282) hx hb dX1_readNumbers_1 (by omega) (by omega) (by rw [c_1_5]; rfl) (by decide) ?_
    refine lv_aload_n hx hb dX1_readNumbers_282 rfl (lv_at hl 0 rfl) ?_
    refine lv_aload_n hx hb dX1_readNumbers_283 rfl (lv_at hl 1 rfl) ?_
    refine t_callv (va_runV (As := [.ref a1]) (rest := []) ⟨hx, hb, hml, hown, hts⟩ (t_X1_readWay l dC dI tys κ B ws hw.2.2.2.2 a0 k_a0 a1 k_a1 s.heap.size) (cwV 1 hts (gUV tw_586 tw_588 ts_0_6 tw_3 tw_589) rfl rfl rfl (by decide +kernel) ⟨(Nat.le_of_ble_eq_true rfl), (Nat.le_of_ble_eq_true rfl)⟩) ⟨cPre.blind, t_recv hw (ci := 1) k_a0 rfl rfl, cPre.use hw.2.1 hw.1 hw.2.2.1 hE⟩ rfl rfl hl.1 rfl (lv_room (Nat.le_of_ble_eq_true rfl)) dX1_readNumbers_284 ⟨(Nat.le_of_ble_eq_true rfl), (Nat.le_of_ble_eq_true rfl)⟩) hw hA (fun _ h => h.1) (fun w_23 H locs hp hw => ?_)
    obtain ⟨_, hm⟩ := hp
    have hM := hM.trans hm (by decide) (by decide)
    have f_a0_X1_0 := hm.1 _ _ _ _ f_a0_X1_0 (by decide)
    have f_f0_X0_3 := hm.1 _ _ _ _ f_f0_X0_3 (by decide)
    have f_f0_X0_4 := hm.1 _ _ _ _ f_f0_X0_4 (by decide)
    have f_f0_X0_5 := hm.1 _ _ _ _ f_f0_X0_5 (by decide)
    refine lv_goto (tgt := 304) hx hb dX1_readNumbers_287 (by decide) ?_
    rw [hQ]
    refine W.widen (k := 0) (n := 0) (Nat.le_refl _) (Nat.le_refl _) ?_
    exact W.vret hx hb hr (fun t ht hW => ⟨⟨w_23, rfl, ⟨hw.2.2.2.2, hM⟩, by rw [ht]; exact hw.2.1, va_K.moved hW.alike hw.1, hw.2.2.1⟩, hw.2.2.2.1.F ht⟩) hw.2.2.2.1.2.2 dX1_readNumbers_304
  · refine lv_tableOut (tgt := 290) hx hb dX1_readNumbers_1 (by omega) (by decide) ?_
    refine lv_aload_n hx hb dX1_readNumbers_290 rfl (lv_at hl 0 rfl) ?_
    refine t_getk (ci := 1) (C := RX1) (T := TX1) (N := 1) hx hb hts iX1 hown hw rfl 0 (by decide) (hts _ tw_156) (fun _ h9 => h9) dX1_readNumbers_291 f_a0_X1_0 ?_
    refine lv_aload_n hx hb dX1_readNumbers_294 rfl (lv_at hl 1 rfl) ?_
    refine lv_iconst (v := 0) hx hb dX1_readNumbers_295 (by decide) ?_
    refine lv_bipush (v := 60) hx hb dX1_readNumbers_296 (by decide) ?_
    refine t_calli (va_runV (As := [.int 0, .int 60]) (rest := [.ref f0]) ⟨hx, hb, hml, hown, hts⟩ (t_X9_takeNumber l dC dI tys κ B ws hw.2.2.2.2 a1 k_a1 0 (by decide) (by decide) 60 (by decide) (by decide) s.heap.size) (cwV 2 hts (gUV tw_573 tw_574 tw_575 tw_2 tw_576) rfl rfl rfl (by decide +kernel) ⟨(Nat.le_of_ble_eq_true rfl), (Nat.le_of_ble_eq_true rfl)⟩) ⟨cPre.blind, t_recv hw (ci := 9) k_a1 rfl rfl, cPre.use hw.2.1 hw.1 hw.2.2.1 hE⟩ rfl rfl hl.1 rfl (lv_room (Nat.le_of_ble_eq_true rfl)) dX1_readNumbers_298 ⟨(Nat.le_of_ble_eq_true rfl), (Nat.le_of_ble_eq_true rfl)⟩) hw hA (fun _ _ h => h.2.2.1) (fun v298 w_24 H locs hp hw => ?_)
    obtain ⟨l_v298, h_v298, _, hm, x_v298_0⟩ := hp
    have zc_0 := li_0
    have zc_60 := li_60
    have hM := hM.trans hm (by decide) (by decide)
    have f_a0_X1_0 := hm.1 _ _ _ _ f_a0_X1_0 (by decide)
    have f_f0_X0_3 := hm.1 _ _ _ _ f_f0_X0_3 (by decide)
    have f_f0_X0_4 := hm.1 _ _ _ _ f_f0_X0_4 (by decide)
    have f_f0_X0_5 := hm.1 _ _ _ _ f_f0_X0_5 (by decide)
    refine t_callv (va_runV (As := [.int v298]) (rest := []) ⟨hx, hb, hml, hown, hts⟩ (t_X0_setSnow l dC dI tys κ B w_24 hw.2.2.2.2 f0 k_f0 v298 (by omega) (by omega) H.size) (cwV 1 hts (gUV tw_594 tw_595 tw_596 tw_4 tw_597) rfl rfl rfl (by decide +kernel) ⟨(Nat.le_of_ble_eq_true rfl), (Nat.le_of_ble_eq_true rfl)⟩) ⟨cPre.blind, t_recv hw (ci := 0) k_f0 rfl rfl, cPre.use hw.2.1 hw.1 hw.2.2.1 hE⟩ rfl rfl hl.1 rfl (lv_room (Nat.le_of_ble_eq_true rfl)) dX1_readNumbers_301 ⟨(Nat.le_of_ble_eq_true rfl), (Nat.le_of_ble_eq_true rfl)⟩) hw hA (fun _ h => h.1) (fun w_25 H locs hp hw => ?_)
    obtain ⟨_, hm⟩ := hp
    have hM := hM.trans hm (by decide) (by decide)
    have f_a0_X1_0 := hm.1 _ _ _ _ f_a0_X1_0 (by decide)
    have f_f0_X0_3 := hm.1 _ _ _ _ f_f0_X0_3 (by decide)
    have f_f0_X0_4 := hm.1 _ _ _ _ f_f0_X0_4 (by decide)
    have f_f0_X0_5 := hm.1 _ _ _ _ f_f0_X0_5 (by decide)
    rw [hQ]
    refine W.widen (k := 0) (n := 0) (Nat.le_refl _) (Nat.le_refl _) ?_
    exact W.vret hx hb hr (fun t ht hW => ⟨⟨w_25, rfl, ⟨hw.2.2.2.2, hM⟩, by rw [ht]; exact hw.2.1, va_K.moved hW.alike hw.1, hw.2.2.1⟩, hw.2.2.2.1.F ht⟩) hw.2.2.2.1.2.2 dX1_readNumbers_304
