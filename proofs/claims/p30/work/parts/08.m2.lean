theorem tw_74 : (Jvm.Cond.fieldLink "BoyBishop$Choir" (70 : Nat) "BoyBishop$Choir" "hours" "I") ∈ gT := gT_in (List.mem_append_right _ (List.mem_append_left _ (List.mem_of_getElem? (i := 74) rfl))) rfl
theorem tw_818 : (Jvm.Cond.instanceMethod ({ cls := "BoyBishop$Choir", name := "snowsOn", desc := "(I)Z" } : Jvm.MethodName)) ∈ gT := gT_in (List.mem_append_right _ (List.mem_append_right _ (List.mem_append_right _ (List.mem_append_right _ (List.mem_append_left _ (List.mem_of_getElem? (i := 98) rfl)))))) rfl
theorem tw_819 : (Jvm.Cond.selects "BoyBishop$Choir" ({ cls := "BoyBishop$Choir", name := "snowsOn", desc := "(I)Z" } : Jvm.MethodName) ({ cls := "BoyBishop$Choir", name := "snowsOn", desc := "(I)Z" } : Jvm.MethodName)) ∈ gT := gT_in (List.mem_append_right _ (List.mem_append_right _ (List.mem_append_right _ (List.mem_append_right _ (List.mem_append_left _ (List.mem_of_getElem? (i := 99) rfl)))))) rfl
theorem tw_820 : (Jvm.Cond.code ({ cls := "BoyBishop$Choir", name := "snowsOn", desc := "(I)Z" } : Jvm.MethodName) prog_2_method_7_code (2 : Nat) (Option.some Jvm.ClassFile.FieldType.boolean)) ∈ gT := gT_in (List.mem_append_right _ (List.mem_append_right _ (List.mem_append_right _ (List.mem_append_right _ (List.mem_append_left _ (List.mem_of_getElem? (i := 100) rfl)))))) rfl
theorem tw_853 : (Jvm.Cond.methodLink "BoyBishop$Choir" (66 : Nat) ({ cls := "BoyBishop$Choir", name := "snowsOn", desc := "(I)Z" } : Jvm.MethodName)) ∈ gT := gT_in (List.mem_append_right _ (List.mem_append_right _ (List.mem_append_right _ (List.mem_append_right _ (List.mem_append_left _ (List.mem_of_getElem? (i := 133) rfl)))))) rfl
theorem dX0_hoursBetween_0 : decode cX0_hoursBetween 0 = .ok (.aload_n 0, 1) := by decide +kernel
theorem dX0_hoursBetween_1 : decode cX0_hoursBetween 1 = .ok (.getfield 36, 3) := by decide +kernel
theorem dX0_hoursBetween_4 : decode cX0_hoursBetween 4 = .ok (.iload_n 1, 1) := by decide +kernel
theorem dX0_hoursBetween_5 : decode cX0_hoursBetween 5 = .ok (.bipush 7, 2) := by decide +kernel
theorem dX0_hoursBetween_7 : decode cX0_hoursBetween 7 = .ok (.imul, 1) := by decide +kernel
theorem dX0_hoursBetween_8 : decode cX0_hoursBetween 8 = .ok (.iload_n 2, 1) := by decide +kernel
theorem dX0_hoursBetween_9 : decode cX0_hoursBetween 9 = .ok (.iadd, 1) := by decide +kernel
theorem dX0_hoursBetween_10 : decode cX0_hoursBetween 10 = .ok (.iaload, 1) := by decide +kernel
theorem dX0_hoursBetween_11 : decode cX0_hoursBetween 11 = .ok (.ireturn, 1) := by decide +kernel
theorem dX0_hoursOn_0 : decode cX0_hoursOn 0 = .ok (.aload_n 0, 1) := by decide +kernel
theorem dX0_hoursOn_1 : decode cX0_hoursOn 1 = .ok (.iload_n 1, 1) := by decide +kernel
theorem dX0_hoursOn_2 : decode cX0_hoursOn 2 = .ok (.invokevirtual 66, 3) := by decide +kernel
theorem dX0_hoursOn_5 : decode cX0_hoursOn 5 = .ok (.ifCond .eq 12, 3) := by decide +kernel
theorem dX0_hoursOn_8 : decode cX0_hoursOn 8 = .ok (.aload_n 0, 1) := by decide +kernel
theorem dX0_hoursOn_9 : decode cX0_hoursOn 9 = .ok (.getfield 70, 3) := by decide +kernel
theorem dX0_hoursOn_12 : decode cX0_hoursOn 12 = .ok (.iconst 2, 1) := by decide +kernel
theorem dX0_hoursOn_13 : decode cX0_hoursOn 13 = .ok (.idiv, 1) := by decide +kernel
theorem dX0_hoursOn_14 : decode cX0_hoursOn 14 = .ok (.goto 7, 3) := by decide +kernel
theorem dX0_hoursOn_17 : decode cX0_hoursOn 17 = .ok (.aload_n 0, 1) := by decide +kernel
theorem dX0_hoursOn_18 : decode cX0_hoursOn 18 = .ok (.getfield 70, 3) := by decide +kernel
theorem dX0_hoursOn_21 : decode cX0_hoursOn 21 = .ok (.ireturn, 1) := by decide +kernel
theorem dX0_roundHours_0 : decode cX0_roundHours 0 = .ok (.aload_n 0, 1) := by decide +kernel
theorem dX0_roundHours_1 : decode cX0_roundHours 1 = .ok (.getfield 36, 3) := by decide +kernel
theorem dX0_roundHours_4 : decode cX0_roundHours 4 = .ok (.aload_n 0, 1) := by decide +kernel
theorem dX0_roundHours_5 : decode cX0_roundHours 5 = .ok (.getfield 50, 3) := by decide +kernel
theorem dX0_roundHours_8 : decode cX0_roundHours 8 = .ok (.iload_n 1, 1) := by decide +kernel
theorem dX0_roundHours_9 : decode cX0_roundHours 9 = .ok (.iload_n 2, 1) := by decide +kernel
theorem dX0_roundHours_10 : decode cX0_roundHours 10 = .ok (.invokestatic 73, 3) := by decide +kernel
theorem dX0_roundHours_13 : decode cX0_roundHours 13 = .ok (.ireturn, 1) := by decide +kernel
theorem dX0_setSnow_0 : decode cX0_setSnow 0 = .ok (.iload_n 1, 1) := by decide +kernel
theorem dX0_setSnow_1 : decode cX0_setSnow 1 = .ok (.ifCond .lt 19, 3) := by decide +kernel
theorem dX0_setSnow_4 : decode cX0_setSnow 4 = .ok (.iload_n 1, 1) := by decide +kernel
theorem dX0_setSnow_5 : decode cX0_setSnow 5 = .ok (.aload_n 0, 1) := by decide +kernel
theorem dX0_setSnow_6 : decode cX0_setSnow 6 = .ok (.getfield 39, 3) := by decide +kernel
theorem dX0_setSnow_9 : decode cX0_setSnow 9 = .ok (.arraylength, 1) := by decide +kernel
theorem dX0_setSnow_10 : decode cX0_setSnow 10 = .ok (.if_icmp .ge 10, 3) := by decide +kernel
theorem dX0_setSnow_13 : decode cX0_setSnow 13 = .ok (.aload_n 0, 1) := by decide +kernel
theorem dX0_setSnow_14 : decode cX0_setSnow 14 = .ok (.getfield 39, 3) := by decide +kernel
theorem dX0_setSnow_17 : decode cX0_setSnow 17 = .ok (.iload_n 1, 1) := by decide +kernel
theorem dX0_setSnow_18 : decode cX0_setSnow 18 = .ok (.iconst 1, 1) := by decide +kernel
theorem dX0_setSnow_19 : decode cX0_setSnow 19 = .ok (.bastore, 1) := by decide +kernel
theorem dX0_setSnow_20 : decode cX0_setSnow 20 = .ok (.return_, 1) := by decide +kernel
theorem dX0_setWay_0 : decode cX0_setWay 0 = .ok (.aload_n 0, 1) := by decide +kernel
theorem dX0_setWay_1 : decode cX0_setWay 1 = .ok (.getfield 36, 3) := by decide +kernel
theorem dX0_setWay_4 : decode cX0_setWay 4 = .ok (.iload_n 1, 1) := by decide +kernel
theorem dX0_setWay_5 : decode cX0_setWay 5 = .ok (.bipush 7, 2) := by decide +kernel
theorem dX0_setWay_7 : decode cX0_setWay 7 = .ok (.imul, 1) := by decide +kernel
theorem dX0_setWay_8 : decode cX0_setWay 8 = .ok (.iload_n 2, 1) := by decide +kernel
theorem dX0_setWay_9 : decode cX0_setWay 9 = .ok (.iadd, 1) := by decide +kernel
theorem dX0_setWay_10 : decode cX0_setWay 10 = .ok (.iload_n 3, 1) := by decide +kernel
theorem dX0_setWay_11 : decode cX0_setWay 11 = .ok (.iastore, 1) := by decide +kernel
theorem dX0_setWay_12 : decode cX0_setWay 12 = .ok (.aload_n 0, 1) := by decide +kernel
theorem dX0_setWay_13 : decode cX0_setWay 13 = .ok (.getfield 36, 3) := by decide +kernel
theorem dX0_setWay_16 : decode cX0_setWay 16 = .ok (.iload_n 2, 1) := by decide +kernel
theorem dX0_setWay_17 : decode cX0_setWay 17 = .ok (.bipush 7, 2) := by decide +kernel
theorem dX0_setWay_19 : decode cX0_setWay 19 = .ok (.imul, 1) := by decide +kernel
theorem dX0_setWay_20 : decode cX0_setWay 20 = .ok (.iload_n 1, 1) := by decide +kernel
theorem dX0_setWay_21 : decode cX0_setWay 21 = .ok (.iadd, 1) := by decide +kernel
theorem dX0_setWay_22 : decode cX0_setWay 22 = .ok (.iload_n 3, 1) := by decide +kernel
theorem dX0_setWay_23 : decode cX0_setWay 23 = .ok (.iastore, 1) := by decide +kernel
theorem dX0_setWay_24 : decode cX0_setWay 24 = .ok (.return_, 1) := by decide +kernel
theorem dX0_shortenWays_0 : decode cX0_shortenWays 0 = .ok (.iconst 0, 1) := by decide +kernel
theorem dX0_shortenWays_1 : decode cX0_shortenWays 1 = .ok (.istore_n 1, 1) := by decide +kernel
theorem dX0_shortenWays_2 : decode cX0_shortenWays 2 = .ok (.iload_n 1, 1) := by decide +kernel
theorem dX0_shortenWays_3 : decode cX0_shortenWays 3 = .ok (.bipush 7, 2) := by decide +kernel
theorem dX0_shortenWays_5 : decode cX0_shortenWays 5 = .ok (.if_icmp .ge 21, 3) := by decide +kernel
theorem dX0_shortenWays_8 : decode cX0_shortenWays 8 = .ok (.aload_n 0, 1) := by decide +kernel
theorem dX0_shortenWays_9 : decode cX0_shortenWays 9 = .ok (.getfield 36, 3) := by decide +kernel
theorem dX0_shortenWays_12 : decode cX0_shortenWays 12 = .ok (.iload_n 1, 1) := by decide +kernel
theorem dX0_shortenWays_13 : decode cX0_shortenWays 13 = .ok (.bipush 7, 2) := by decide +kernel
theorem dX0_shortenWays_15 : decode cX0_shortenWays 15 = .ok (.imul, 1) := by decide +kernel
theorem dX0_shortenWays_16 : decode cX0_shortenWays 16 = .ok (.iload_n 1, 1) := by decide +kernel
theorem dX0_shortenWays_17 : decode cX0_shortenWays 17 = .ok (.iadd, 1) := by decide +kernel
theorem dX0_shortenWays_18 : decode cX0_shortenWays 18 = .ok (.iconst 0, 1) := by decide +kernel
theorem dX0_shortenWays_19 : decode cX0_shortenWays 19 = .ok (.iastore, 1) := by decide +kernel
theorem dX0_shortenWays_20 : decode cX0_shortenWays 20 = .ok (.iinc 1 1, 3) := by decide +kernel
theorem dX0_shortenWays_23 : decode cX0_shortenWays 23 = .ok (.goto (-21), 3) := by decide +kernel
theorem dX0_shortenWays_26 : decode cX0_shortenWays 26 = .ok (.iconst 0, 1) := by decide +kernel
theorem dX0_shortenWays_27 : decode cX0_shortenWays 27 = .ok (.istore_n 1, 1) := by decide +kernel
theorem dX0_shortenWays_28 : decode cX0_shortenWays 28 = .ok (.iload_n 1, 1) := by decide +kernel
theorem dX0_shortenWays_29 : decode cX0_shortenWays 29 = .ok (.bipush 7, 2) := by decide +kernel
theorem dX0_shortenWays_31 : decode cX0_shortenWays 31 = .ok (.if_icmp .ge 89, 3) := by decide +kernel
theorem dX0_shortenWays_34 : decode cX0_shortenWays 34 = .ok (.iconst 0, 1) := by decide +kernel
theorem dX0_shortenWays_35 : decode cX0_shortenWays 35 = .ok (.istore_n 2, 1) := by decide +kernel
theorem dX0_shortenWays_36 : decode cX0_shortenWays 36 = .ok (.iload_n 2, 1) := by decide +kernel
theorem dX0_shortenWays_37 : decode cX0_shortenWays 37 = .ok (.bipush 7, 2) := by decide +kernel
theorem dX0_shortenWays_39 : decode cX0_shortenWays 39 = .ok (.if_icmp .ge 75, 3) := by decide +kernel
theorem dX0_shortenWays_42 : decode cX0_shortenWays 42 = .ok (.iconst 0, 1) := by decide +kernel
theorem dX0_shortenWays_43 : decode cX0_shortenWays 43 = .ok (.istore_n 3, 1) := by decide +kernel
theorem dX0_shortenWays_44 : decode cX0_shortenWays 44 = .ok (.iload_n 3, 1) := by decide +kernel
theorem dX0_shortenWays_45 : decode cX0_shortenWays 45 = .ok (.bipush 7, 2) := by decide +kernel
theorem dX0_shortenWays_47 : decode cX0_shortenWays 47 = .ok (.if_icmp .ge 61, 3) := by decide +kernel
theorem dX0_shortenWays_50 : decode cX0_shortenWays 50 = .ok (.aload_n 0, 1) := by decide +kernel
theorem dX0_shortenWays_51 : decode cX0_shortenWays 51 = .ok (.getfield 36, 3) := by decide +kernel
theorem dX0_shortenWays_54 : decode cX0_shortenWays 54 = .ok (.iload_n 2, 1) := by decide +kernel
theorem dX0_shortenWays_55 : decode cX0_shortenWays 55 = .ok (.bipush 7, 2) := by decide +kernel
theorem dX0_shortenWays_57 : decode cX0_shortenWays 57 = .ok (.imul, 1) := by decide +kernel
theorem dX0_shortenWays_58 : decode cX0_shortenWays 58 = .ok (.iload_n 1, 1) := by decide +kernel
theorem dX0_shortenWays_59 : decode cX0_shortenWays 59 = .ok (.iadd, 1) := by decide +kernel
theorem dX0_shortenWays_60 : decode cX0_shortenWays 60 = .ok (.iaload, 1) := by decide +kernel
theorem dX0_shortenWays_61 : decode cX0_shortenWays 61 = .ok (.aload_n 0, 1) := by decide +kernel
theorem dX0_shortenWays_62 : decode cX0_shortenWays 62 = .ok (.getfield 36, 3) := by decide +kernel
theorem dX0_shortenWays_65 : decode cX0_shortenWays 65 = .ok (.iload_n 1, 1) := by decide +kernel
theorem dX0_shortenWays_66 : decode cX0_shortenWays 66 = .ok (.bipush 7, 2) := by decide +kernel
theorem dX0_shortenWays_68 : decode cX0_shortenWays 68 = .ok (.imul, 1) := by decide +kernel
theorem dX0_shortenWays_69 : decode cX0_shortenWays 69 = .ok (.iload_n 3, 1) := by decide +kernel
theorem dX0_shortenWays_70 : decode cX0_shortenWays 70 = .ok (.iadd, 1) := by decide +kernel
theorem dX0_shortenWays_71 : decode cX0_shortenWays 71 = .ok (.iaload, 1) := by decide +kernel
theorem dX0_shortenWays_72 : decode cX0_shortenWays 72 = .ok (.iadd, 1) := by decide +kernel
theorem dX0_shortenWays_73 : decode cX0_shortenWays 73 = .ok (.istore 4, 2) := by decide +kernel
theorem dX0_shortenWays_75 : decode cX0_shortenWays 75 = .ok (.aload_n 0, 1) := by decide +kernel
theorem dX0_shortenWays_76 : decode cX0_shortenWays 76 = .ok (.getfield 36, 3) := by decide +kernel
theorem dX0_shortenWays_79 : decode cX0_shortenWays 79 = .ok (.iload_n 2, 1) := by decide +kernel
theorem dX0_shortenWays_80 : decode cX0_shortenWays 80 = .ok (.bipush 7, 2) := by decide +kernel
theorem dX0_shortenWays_82 : decode cX0_shortenWays 82 = .ok (.imul, 1) := by decide +kernel
theorem dX0_shortenWays_83 : decode cX0_shortenWays 83 = .ok (.iload_n 3, 1) := by decide +kernel
theorem dX0_shortenWays_84 : decode cX0_shortenWays 84 = .ok (.iadd, 1) := by decide +kernel
theorem dX0_shortenWays_85 : decode cX0_shortenWays 85 = .ok (.aload_n 0, 1) := by decide +kernel
theorem dX0_shortenWays_86 : decode cX0_shortenWays 86 = .ok (.getfield 36, 3) := by decide +kernel
theorem dX0_shortenWays_89 : decode cX0_shortenWays 89 = .ok (.iload_n 2, 1) := by decide +kernel
theorem dX0_shortenWays_90 : decode cX0_shortenWays 90 = .ok (.bipush 7, 2) := by decide +kernel
theorem dX0_shortenWays_92 : decode cX0_shortenWays 92 = .ok (.imul, 1) := by decide +kernel
theorem dX0_shortenWays_93 : decode cX0_shortenWays 93 = .ok (.iload_n 3, 1) := by decide +kernel
theorem dX0_shortenWays_94 : decode cX0_shortenWays 94 = .ok (.iadd, 1) := by decide +kernel
theorem dX0_shortenWays_95 : decode cX0_shortenWays 95 = .ok (.iaload, 1) := by decide +kernel
theorem dX0_shortenWays_96 : decode cX0_shortenWays 96 = .ok (.iload 4, 2) := by decide +kernel
theorem dX0_shortenWays_98 : decode cX0_shortenWays 98 = .ok (.invokestatic 60, 3) := by decide +kernel
theorem dX0_shortenWays_101 : decode cX0_shortenWays 101 = .ok (.iastore, 1) := by decide +kernel
theorem dX0_shortenWays_102 : decode cX0_shortenWays 102 = .ok (.iinc 3 1, 3) := by decide +kernel
theorem dX0_shortenWays_105 : decode cX0_shortenWays 105 = .ok (.goto (-61), 3) := by decide +kernel
theorem dX0_shortenWays_108 : decode cX0_shortenWays 108 = .ok (.iinc 2 1, 3) := by decide +kernel
theorem dX0_shortenWays_111 : decode cX0_shortenWays 111 = .ok (.goto (-75), 3) := by decide +kernel
theorem dX0_shortenWays_114 : decode cX0_shortenWays 114 = .ok (.iinc 1 1, 3) := by decide +kernel
theorem dX0_shortenWays_117 : decode cX0_shortenWays 117 = .ok (.goto (-89), 3) := by decide +kernel
theorem dX0_shortenWays_120 : decode cX0_shortenWays 120 = .ok (.return_, 1) := by decide +kernel
theorem dX0_snowsOn_0 : decode cX0_snowsOn 0 = .ok (.iload_n 1, 1) := by decide +kernel
theorem dX0_snowsOn_1 : decode cX0_snowsOn 1 = .ok (.ifCond .lt 25, 3) := by decide +kernel
theorem dX0_snowsOn_4 : decode cX0_snowsOn 4 = .ok (.iload_n 1, 1) := by decide +kernel
theorem dX0_snowsOn_5 : decode cX0_snowsOn 5 = .ok (.aload_n 0, 1) := by decide +kernel
theorem dX0_snowsOn_6 : decode cX0_snowsOn 6 = .ok (.getfield 39, 3) := by decide +kernel
theorem dX0_snowsOn_9 : decode cX0_snowsOn 9 = .ok (.arraylength, 1) := by decide +kernel
theorem dX0_snowsOn_10 : decode cX0_snowsOn 10 = .ok (.if_icmp .ge 16, 3) := by decide +kernel
theorem dX0_snowsOn_13 : decode cX0_snowsOn 13 = .ok (.aload_n 0, 1) := by decide +kernel
theorem dX0_snowsOn_14 : decode cX0_snowsOn 14 = .ok (.getfield 39, 3) := by decide +kernel
theorem dX0_snowsOn_17 : decode cX0_snowsOn 17 = .ok (.iload_n 1, 1) := by decide +kernel
theorem dX0_snowsOn_18 : decode cX0_snowsOn 18 = .ok (.baload, 1) := by decide +kernel
theorem dX0_snowsOn_19 : decode cX0_snowsOn 19 = .ok (.ifCond .eq 7, 3) := by decide +kernel
theorem dX0_snowsOn_22 : decode cX0_snowsOn 22 = .ok (.iconst 1, 1) := by decide +kernel
theorem dX0_snowsOn_23 : decode cX0_snowsOn 23 = .ok (.goto 4, 3) := by decide +kernel
theorem dX0_snowsOn_26 : decode cX0_snowsOn 26 = .ok (.iconst 0, 1) := by decide +kernel
theorem dX0_snowsOn_27 : decode cX0_snowsOn 27 = .ok (.ireturn, 1) := by decide +kernel
theorem li_2 : (2 : Int32).toInt = 2 := by decide
set_option maxHeartbeats 4000000 in
set_option maxRecDepth 100000 in
theorem t_X0_fewestHours_3 (l : Launch) (dC : Nat → ClassId) (dI : Nat → Nat → Nat) (tys : List (ClassId × FieldType)) (κ : tK) (B : Nat) (ws : va_W) (hT : Ty κ tys B ws) (a0 : Nat) (k_a0 : κ a0 = some 28) (a1 : Int32) (l_a1 : 1 ≤ a1.toInt) (h_a1 : a1.toInt ≤ 6) (a2 : Int32) (l_a2 : 1 ≤ a2.toInt) (h_a2 : a2.toInt ≤ 6) (a3 : Int32) (l_a3 : 0 ≤ a3.toInt) (h_a3 : a3.toInt ≤ 63) (hX : c6 a3 ≤ 3) (sz : Nat) : Met l yX0_fewestHours (ws_u yX0_fewestHours cX0_fewestHours 7 (some .int)) ({ frames := 3, cells := 0, slots := 0, locals := 92 }) (va_Pc [.ref a0, .int a1, .int a2, .int a3] (cPre (dC, dI) tys ws sz)) (va_Qi (fun (r : Int32) (w : va_W) => Ty κ tys B w ∧ Sm [] [] κ ws w) (fun w t => cPost (dC, dI) tys w (va_A ws sz) t) (va_A ws sz)) 0 0 (va_A ws sz) := by
  refine Met.ofW (cc := cX0_fewestHours) (maxL := 7) (ret := (some .int)) (by decide) rfl ?_
  intro p e s m args below meth c s₁ B0 hml hv
  obtain ⟨rfl, hsz, hP, hK, hD0, hE⟩ := hv
  have hx := B0.exec
  have hb := B0.bytes
  have hr := B0.returns
  have hts0 := atoms_spec (ws := ws_u yX0_fewestHours cX0_fewestHours 7 (some .int)) B0.pre
  have hts : ∀ w ∈ gT, w.before _ s = true := fun w h => hts0 w (List.mem_cons_of_mem _ h)
  have hown : s.vm.findClass RX0 = some m.cls := findClass_of_methodNamed B0.named
  have hlocks := B0.notSynchronized
  subst hsz
  have hD := hD0.self (sz := s.heap.size)
  generalize hAe : va_A ws s.heap.size = A at hD ⊢
  have hA : ∀ q : Nat, s.heap.size ≤ q → A q := fun q h => by rw [← hAe]; exact Or.inr h
  have hw : tW (dC, dI) tys κ B A s ws s.heap [] := ⟨hK, hP, hD, va_S.rf, hT⟩
  have hM : Sm [] [] κ ws ws := Sm.rf
  clear hP hK hD hD0 hts0
  have hl := lv_entry ([.ref a0, .int a1, .int a2, .int a3]) (n := 7) (Nat.le_of_ble_eq_true rfl)
  rw [lg_entry_eq]
  generalize (lg_sl ([.ref a0, .int a1, .int a2, .int a3]) ++ List.replicate (7 - (lg_sl ([.ref a0, .int a1, .int a2, .int a3])).length) Slot.unset).toArray = ls at hl ⊢
  have hl : lv_has ls 7 [(0, .ref a0), (1, .int a1), (2, .int a2), (3, .int a3)] := hl
  refine t_start (fun QQ hQ => ?_)
  refine lv_iload_n hx hb dX0_fewestHours_0 rfl (lv_at hl 3 rfl) ?_
  refine lv_if_ne (tgt := 13) hx hb dX0_fewestHours_1 (by decide) (fun c_1 => ?_) (fun c_1 => ?_)
  · simp only [fa_lt, fa_le, fa_eq, li_0] at c_1
    refine lv_ldc (v := 1000000) hx hb hown (hts _ tw_491) dX0_fewestHours_13 ?_
    refine lv_istore (lv' := [(4, .int 1000000), (0, .ref a0), (1, .int a1), (2, .int a2), (3, .int a3)]) hx hb dX0_fewestHours_15 hl (by decide) rfl (fun ls hl => ?_)
    refine lv_iconst (v := 0) hx hb dX0_fewestHours_17 (by decide) ?_
    refine lv_istore (lv' := [(5, .int 0), (4, .int 1000000), (0, .ref a0), (1, .int a1), (2, .int a2), (3, .int a3)]) hx hb dX0_fewestHours_18 hl (by decide) rfl (fun ls hl => ?_)
    have J20 : ∀ (n : Nat) (H : Heap) (locs : List Loc) (ls : Array Slot), (∃ (w20 : va_W) (p20_l4 : Int32) (p20_l5 : Int32), tW (dC, dI) tys κ B A s w20 H locs ∧ Sm [] [] κ ws w20 ∧ (-2147483648) ≤ p20_l4.toInt ∧ p20_l4.toInt ≤ 1000000 ∧ 0 ≤ p20_l5.toInt ∧ p20_l5.toInt ≤ 6 ∧ lv_has ls 7 [(0, .ref a0), (1, .int a1), (2, .int a2), (3, .int a3), (4, .int p20_l4), (5, .int p20_l5)] ∧ (6 - p20_l5.toInt).toNat = n) → W p l e (headSpec (ws_u yX0_fewestHours cX0_fewestHours 7 (some .int)) ({ frames := 3, cells := 0, slots := 0, locals := 92 })).room s m ([.ref a0, .int a1, .int a2, .int a3] : List Value).toArray below meth c H locs 0 0 QQ (F0 m 20 ls []) := by
      refine loopT _ ?_
      intro n_20 H locs ls hI ih_20
      obtain ⟨w20, p20_l4, p20_l5, hw, hM, l_p20_l4, h_p20_l4, l_p20_l5, h_p20_l5, hl, hn_20⟩ := hI
      refine lv_iload hx hb dX0_fewestHours_20 (lv_at hl 5 rfl) ?_
      refine lv_iload_n hx hb dX0_fewestHours_22 rfl (lv_at hl 1 rfl) ?_
      refine lv_icmp_ge (tgt := 89) hx hb dX0_fewestHours_23 (by decide) (fun c_23 => ?_) (fun c_23 => ?_)
      · simp only [fa_lt, fa_le, fa_eq] at c_23
        refine lv_iload hx hb dX0_fewestHours_89 (lv_at hl 4 rfl) ?_
        rw [hQ]
        refine W.widen (k := 0) (n := 0) (Nat.le_refl _) (Nat.le_refl _) ?_
        exact W.iret (v := p20_l4) hx hb hr (fun t ht hW => ⟨⟨p20_l4, w20, rfl, ⟨hw.2.2.2.2, hM⟩, by rw [ht]; exact hw.2.1, va_K.moved hW.alike hw.1, hw.2.2.1⟩, hw.2.2.2.1.F ht⟩) hw.2.2.2.1.2.2 dX0_fewestHours_91
      · simp only [fa_lt, fa_le, fa_eq] at c_23
        refine lv_aload_n hx hb dX0_fewestHours_26 rfl (lv_at hl 0 rfl) ?_
        refine lv_iload_n hx hb dX0_fewestHours_27 rfl (lv_at hl 2 rfl) ?_
        refine lv_bipush (v := 7) hx hb dX0_fewestHours_28 (by decide) ?_
        refine lv_imul hx hb dX0_fewestHours_30 ?_
        refine lv_topi (fun v30 e_v30 => ?_)
        have e_v30 : v30.toInt = a2.toInt * 7 := ml_i e_v30 rfl li_7 (by omega) (by omega)
        refine lv_iload hx hb dX0_fewestHours_31 (lv_at hl 5 rfl) ?_
        refine lv_iadd hx hb dX0_fewestHours_33 ?_
        refine lv_topi (fun v33 e_v33 => ?_)
        have e_v33 : v33.toInt = v30.toInt + p20_l5.toInt := ad_i e_v33 rfl rfl (by omega) (by omega)
        refine lv_iconst (v := 1) hx hb dX0_fewestHours_34 (by decide) ?_
        refine lv_iadd hx hb dX0_fewestHours_35 ?_
        refine lv_topi (fun v35 e_v35 => ?_)
        have e_v35 : v35.toInt = v33.toInt + 1 := ad_i e_v35 rfl li_1 (by omega) (by omega)
        refine t_iald hx hb hw k_a0 rfl rfl (by omega) (show v35.toInt < 49 by omega) dX0_fewestHours_36 (fun v36 r_v36 s_v36 q_v36 => ?_)
        have l_v36 := i32_lo v36
        have h_v36 := i32_hi v36
        refine lv_istore (lv' := [(6, .int v36), (0, .ref a0), (1, .int a1), (2, .int a2), (3, .int a3), (4, .int p20_l4), (5, .int p20_l5)]) hx hb dX0_fewestHours_37 hl (by decide) rfl (fun ls hl => ?_)
        refine lv_iload_n hx hb dX0_fewestHours_39 rfl (lv_at hl 4 rfl) ?_
        refine lv_iload hx hb dX0_fewestHours_40 (lv_at hl 6 rfl) ?_
        refine lv_ishr hx hb dX0_fewestHours_42 ?_
        refine lv_topi (fun v42 e_v42 => ?_)
        have l_v42 := i32_lo v42
        have h_v42 := i32_hi v42
        refine lv_iconst (v := 1) hx hb dX0_fewestHours_43 (by decide) ?_
        refine lv_iand hx hb dX0_fewestHours_44 ?_
        refine lv_topi (fun v44 e_v44 => ?_)
        have ⟨l_v44, h_v44⟩ : 0 ≤ v44.toInt ∧ v44.toInt ≤ 1 := and_r e_v44 li_1 (by decide)
        refine lv_iconst (v := 1) hx hb dX0_fewestHours_45 (by decide) ?_
        have J83 : ∀ (H : Heap) (locs : List Loc) (ls : Array Slot) (w83 : va_W) (p83_l4 : Int32), tW (dC, dI) tys κ B A s w83 H locs → Sm [] [] κ ws w83 → (-2147483648) ≤ p83_l4.toInt → p83_l4.toInt ≤ 1000000 → lv_has ls 7 [(0, .ref a0), (1, .int a1), (2, .int a2), (3, .int a3), (4, .int p83_l4), (5, .int p20_l5), (6, .int v36)] → W p l e (headSpec (ws_u yX0_fewestHours cX0_fewestHours 7 (some .int)) ({ frames := 3, cells := 0, slots := 0, locals := 92 })).room s m ([.ref a0, .int a1, .int a2, .int a3] : List Value).toArray below meth c H locs 0 0 QQ (F0 m 83 ls []) := by
          intro H locs ls w83 p83_l4 hw hM l_p83_l4 h_p83_l4 hl
          obtain ⟨v83, e_v83⟩ : ∃ y : Int32, y = p20_l5 + 1 := ⟨_, rfl⟩
          refine lv_iinc (v := v83) (lv' := [(5, .int v83), (0, .ref a0), (1, .int a1), (2, .int a2), (3, .int a3), (4, .int p83_l4), (6, .int v36)]) hx hb dX0_fewestHours_83 hl (k := 5) rfl e_v83.symm (by decide) rfl (fun ls hl => ?_)
          have e_v83 : v83.toInt = p20_l5.toInt + 1 := ad_i e_v83 rfl li_1 (by omega) (by omega)
          refine lv_goto (tgt := 20) hx hb dX0_fewestHours_86 (by decide) ?_
          exact ih_20 _ _ _ _ (by omega) ⟨w83, p83_l4, v83, hw, hM, (by omega), (by omega), (by omega), (by omega), (lv_sub hl [1, 2, 3, 4, 5, 0] rfl), rfl⟩
        refine lv_icmp_ne (tgt := 83) hx hb dX0_fewestHours_46 (by decide) (fun c_46 => ?_) (fun c_46 => ?_)
        · simp only [fa_lt, fa_le, fa_eq, li_1] at c_46
          exact J83 _ _ _ w20 p20_l4 hw hM (by omega) (by omega) (lv_sub hl [1, 2, 3, 4, 5, 6, 0] rfl)
        · simp only [fa_lt, fa_le, fa_eq, li_1] at c_46
          refine lv_iload hx hb dX0_fewestHours_49 (lv_at hl 0 rfl) ?_
          refine lv_iload hx hb dX0_fewestHours_51 (lv_at hl 5 rfl) ?_
          refine lv_icmp_ge (tgt := 83) hx hb dX0_fewestHours_53 (by decide) (fun c_53 => ?_) (fun c_53 => ?_)
          · simp only [fa_lt, fa_le, fa_eq] at c_53
            exact J83 _ _ _ w20 p20_l4 hw hM (by omega) (by omega) (lv_sub hl [1, 2, 3, 4, 5, 6, 0] rfl)
          · simp only [fa_lt, fa_le, fa_eq] at c_53
            refine lv_iload hx hb dX0_fewestHours_56 (lv_at hl 5 rfl) ?_
            refine lv_iload hx hb dX0_fewestHours_58 (lv_at hl 0 rfl) ?_
            refine lv_aload_n hx hb dX0_fewestHours_60 rfl (lv_at hl 1 rfl) ?_
            refine lv_iload_n hx hb dX0_fewestHours_61 rfl (lv_at hl 2 rfl) ?_
            refine lv_iload hx hb dX0_fewestHours_62 (lv_at hl 6 rfl) ?_
            refine lv_iconst (v := 1) hx hb dX0_fewestHours_64 (by decide) ?_
            refine lv_iadd hx hb dX0_fewestHours_65 ?_
            refine lv_topi (fun v65 e_v65 => ?_)
            have e_v65 : v65.toInt = p20_l5.toInt + 1 := ad_i e_v65 rfl li_1 (by omega) (by omega)
            refine lv_iload_n hx hb dX0_fewestHours_66 rfl (lv_at hl 4 rfl) ?_
            refine lv_iconst (v := 1) hx hb dX0_fewestHours_67 (by decide) ?_
            refine lv_iload hx hb dX0_fewestHours_68 (lv_at hl 6 rfl) ?_
            refine lv_ishl hx hb dX0_fewestHours_70 ?_
            refine lv_topi (fun v70 e_v70 => ?_)
            have ⟨l_v70, h_v70⟩ := sh_i e_v70 (by omega) (by omega)
            refine lv_iconst (v := (-1)) hx hb dX0_fewestHours_71 (by decide) ?_
            refine lv_ixor hx hb dX0_fewestHours_72 ?_
            refine lv_topi (fun v72 e_v72 => ?_)
            have l_v72 := i32_lo v72
            have h_v72 := i32_hi v72
            refine lv_iand hx hb dX0_fewestHours_73 ?_
            refine lv_topi (fun v73 e_v73 => ?_)
            have ⟨l_v73, h_v73⟩ : 0 ≤ v73.toInt ∧ v73.toInt ≤ a3.toInt := and_l e_v73 rfl (by omega)
            have ⟨hc_73, _, _⟩ := c6_clear e_v42 e_v44 c_46 e_v70 e_v72 e_v73 (by omega) (by omega) (by omega) (by omega)
            refine t_calli (va_runS (As := [.ref a0, .int a1, .int v65, .int v73]) (rest := [.int v36, .int p20_l4]) ⟨hx, hb, hml, hown, hts⟩ (t_X0_fewestHours_2 l dC dI tys κ B w20 hw.2.2.2.2 a0 k_a0 a1 (by omega) (by omega) v65 (by omega) (by omega) v73 (by omega) (by omega) (by omega) H.size) (va_cwS 4 hts (gUS tw_991 tw_992 tw_4 tw_993) rfl rfl rfl (by decide +kernel) ⟨(Nat.le_of_ble_eq_true rfl), (Nat.le_of_ble_eq_true rfl)⟩) ⟨cPre.blind, cPre.use hw.2.1 hw.1 hw.2.2.1 hE⟩ rfl rfl hl.1 rfl (lv_room (Nat.le_of_ble_eq_true rfl)) dX0_fewestHours_74 ⟨(Nat.le_of_ble_eq_true rfl), (Nat.le_of_ble_eq_true rfl)⟩) hw hA (fun _ _ h => h.1) (fun v74 w_1 H locs hp hw => ?_)
            obtain ⟨_, hm⟩ := hp
            have l_v74 := i32_lo v74
            have h_v74 := i32_hi v74
            have hM := hM.trans hm (by decide) (by decide)
            refine lv_iadd hx hb dX0_fewestHours_77 ?_
            refine lv_topi (fun v77 e_v77 => ?_)
            have l_v77 := i32_lo v77
            have h_v77 := i32_hi v77
            refine va_mmin hx hb (hml.trans hl.1.symm) hown (hts _ tw_614) (hts _ tw_615) (hts _ tw_19) (hts _ tw_616) (Nat.le_of_ble_eq_true rfl) (Nat.le_of_ble_eq_true rfl) (Nat.le_of_ble_eq_true rfl) (Nat.le_of_ble_eq_true rfl) dX0_fewestHours_78 ?_
            refine lv_topi (fun v78 e_v78 => ?_)
            have g_v78 := mn_i e_v78 rfl rfl
            refine lv_istore (lv' := [(4, .int v78), (6, .int v36), (0, .ref a0), (1, .int a1), (2, .int a2), (3, .int a3), (5, .int p20_l5)]) hx hb dX0_fewestHours_81 hl (by decide) rfl (fun ls hl => ?_)
            exact J83 _ _ _ w_1 v78 hw hM (by omega) (by omega) (lv_sub hl [2, 3, 4, 5, 0, 6, 1] rfl)
    exact J20 _ _ _ _ ⟨ws, 1000000, 0, hw, hM, (by decide), (by decide), (by decide), (by decide), (lv_sub hl [2, 3, 4, 5, 1, 0] rfl), rfl⟩
  · simp only [fa_lt, fa_le, fa_eq, li_0] at c_1
    refine lv_aload_n hx hb dX0_fewestHours_4 rfl (lv_at hl 0 rfl) ?_
    refine lv_iload_n hx hb dX0_fewestHours_5 rfl (lv_at hl 2 rfl) ?_
    refine lv_bipush (v := 7) hx hb dX0_fewestHours_6 (by decide) ?_
    refine lv_imul hx hb dX0_fewestHours_8 ?_
    refine lv_topi (fun v8 e_v8 => ?_)
    have e_v8 : v8.toInt = a2.toInt * 7 := ml_i e_v8 rfl li_7 (by omega) (by omega)
    refine lv_iconst (v := 0) hx hb dX0_fewestHours_9 (by decide) ?_
    refine lv_iadd hx hb dX0_fewestHours_10 ?_
    refine lv_topi (fun v10 e_v10 => ?_)
    have e_v10 : v10.toInt = v8.toInt + 0 := ad_i e_v10 rfl li_0 (by omega) (by omega)
    refine t_iald hx hb hw k_a0 rfl rfl (by omega) (show v10.toInt < 49 by omega) dX0_fewestHours_11 (fun v11 r_v11 s_v11 q_v11 => ?_)
    have l_v11 := i32_lo v11
    have h_v11 := i32_hi v11
    rw [hQ]
    refine W.widen (k := 0) (n := 0) (Nat.le_refl _) (Nat.le_refl _) ?_
    exact W.iret (v := v11) hx hb hr (fun t ht hW => ⟨⟨v11, ws, rfl, ⟨hw.2.2.2.2, hM⟩, by rw [ht]; exact hw.2.1, va_K.moved hW.alike hw.1, hw.2.2.1⟩, hw.2.2.2.1.F ht⟩) hw.2.2.2.1.2.2 dX0_fewestHours_12
set_option maxHeartbeats 4000000 in
set_option maxRecDepth 100000 in
theorem t_X0_fewestHours_4 (l : Launch) (dC : Nat → ClassId) (dI : Nat → Nat → Nat) (tys : List (ClassId × FieldType)) (κ : tK) (B : Nat) (ws : va_W) (hT : Ty κ tys B ws) (a0 : Nat) (k_a0 : κ a0 = some 28) (a1 : Int32) (l_a1 : 1 ≤ a1.toInt) (h_a1 : a1.toInt ≤ 6) (a2 : Int32) (l_a2 : 1 ≤ a2.toInt) (h_a2 : a2.toInt ≤ 6) (a3 : Int32) (l_a3 : 0 ≤ a3.toInt) (h_a3 : a3.toInt ≤ 63) (hX : c6 a3 ≤ 4) (sz : Nat) : Met l yX0_fewestHours (ws_u yX0_fewestHours cX0_fewestHours 7 (some .int)) ({ frames := 4, cells := 0, slots := 0, locals := 118 }) (va_Pc [.ref a0, .int a1, .int a2, .int a3] (cPre (dC, dI) tys ws sz)) (va_Qi (fun (r : Int32) (w : va_W) => Ty κ tys B w ∧ Sm [] [] κ ws w) (fun w t => cPost (dC, dI) tys w (va_A ws sz) t) (va_A ws sz)) 0 0 (va_A ws sz) := by
  refine Met.ofW (cc := cX0_fewestHours) (maxL := 7) (ret := (some .int)) (by decide) rfl ?_
  intro p e s m args below meth c s₁ B0 hml hv
  obtain ⟨rfl, hsz, hP, hK, hD0, hE⟩ := hv
  have hx := B0.exec
  have hb := B0.bytes
  have hr := B0.returns
  have hts0 := atoms_spec (ws := ws_u yX0_fewestHours cX0_fewestHours 7 (some .int)) B0.pre
  have hts : ∀ w ∈ gT, w.before _ s = true := fun w h => hts0 w (List.mem_cons_of_mem _ h)
  have hown : s.vm.findClass RX0 = some m.cls := findClass_of_methodNamed B0.named
  have hlocks := B0.notSynchronized
  subst hsz
  have hD := hD0.self (sz := s.heap.size)
  generalize hAe : va_A ws s.heap.size = A at hD ⊢
  have hA : ∀ q : Nat, s.heap.size ≤ q → A q := fun q h => by rw [← hAe]; exact Or.inr h
  have hw : tW (dC, dI) tys κ B A s ws s.heap [] := ⟨hK, hP, hD, va_S.rf, hT⟩
  have hM : Sm [] [] κ ws ws := Sm.rf
  clear hP hK hD hD0 hts0
  have hl := lv_entry ([.ref a0, .int a1, .int a2, .int a3]) (n := 7) (Nat.le_of_ble_eq_true rfl)
  rw [lg_entry_eq]
  generalize (lg_sl ([.ref a0, .int a1, .int a2, .int a3]) ++ List.replicate (7 - (lg_sl ([.ref a0, .int a1, .int a2, .int a3])).length) Slot.unset).toArray = ls at hl ⊢
  have hl : lv_has ls 7 [(0, .ref a0), (1, .int a1), (2, .int a2), (3, .int a3)] := hl
  refine t_start (fun QQ hQ => ?_)
  refine lv_iload_n hx hb dX0_fewestHours_0 rfl (lv_at hl 3 rfl) ?_
  refine lv_if_ne (tgt := 13) hx hb dX0_fewestHours_1 (by decide) (fun c_1 => ?_) (fun c_1 => ?_)
  · simp only [fa_lt, fa_le, fa_eq, li_0] at c_1
    refine lv_ldc (v := 1000000) hx hb hown (hts _ tw_491) dX0_fewestHours_13 ?_
    refine lv_istore (lv' := [(4, .int 1000000), (0, .ref a0), (1, .int a1), (2, .int a2), (3, .int a3)]) hx hb dX0_fewestHours_15 hl (by decide) rfl (fun ls hl => ?_)
    refine lv_iconst (v := 0) hx hb dX0_fewestHours_17 (by decide) ?_
    refine lv_istore (lv' := [(5, .int 0), (4, .int 1000000), (0, .ref a0), (1, .int a1), (2, .int a2), (3, .int a3)]) hx hb dX0_fewestHours_18 hl (by decide) rfl (fun ls hl => ?_)
    have J20 : ∀ (n : Nat) (H : Heap) (locs : List Loc) (ls : Array Slot), (∃ (w20 : va_W) (p20_l4 : Int32) (p20_l5 : Int32), tW (dC, dI) tys κ B A s w20 H locs ∧ Sm [] [] κ ws w20 ∧ (-2147483648) ≤ p20_l4.toInt ∧ p20_l4.toInt ≤ 1000000 ∧ 0 ≤ p20_l5.toInt ∧ p20_l5.toInt ≤ 6 ∧ lv_has ls 7 [(0, .ref a0), (1, .int a1), (2, .int a2), (3, .int a3), (4, .int p20_l4), (5, .int p20_l5)] ∧ (6 - p20_l5.toInt).toNat = n) → W p l e (headSpec (ws_u yX0_fewestHours cX0_fewestHours 7 (some .int)) ({ frames := 4, cells := 0, slots := 0, locals := 118 })).room s m ([.ref a0, .int a1, .int a2, .int a3] : List Value).toArray below meth c H locs 0 0 QQ (F0 m 20 ls []) := by
      refine loopT _ ?_
      intro n_20 H locs ls hI ih_20
      obtain ⟨w20, p20_l4, p20_l5, hw, hM, l_p20_l4, h_p20_l4, l_p20_l5, h_p20_l5, hl, hn_20⟩ := hI
      refine lv_iload hx hb dX0_fewestHours_20 (lv_at hl 5 rfl) ?_
      refine lv_iload_n hx hb dX0_fewestHours_22 rfl (lv_at hl 1 rfl) ?_
      refine lv_icmp_ge (tgt := 89) hx hb dX0_fewestHours_23 (by decide) (fun c_23 => ?_) (fun c_23 => ?_)
      · simp only [fa_lt, fa_le, fa_eq] at c_23
        refine lv_iload hx hb dX0_fewestHours_89 (lv_at hl 4 rfl) ?_
        rw [hQ]
        refine W.widen (k := 0) (n := 0) (Nat.le_refl _) (Nat.le_refl _) ?_
        exact W.iret (v := p20_l4) hx hb hr (fun t ht hW => ⟨⟨p20_l4, w20, rfl, ⟨hw.2.2.2.2, hM⟩, by rw [ht]; exact hw.2.1, va_K.moved hW.alike hw.1, hw.2.2.1⟩, hw.2.2.2.1.F ht⟩) hw.2.2.2.1.2.2 dX0_fewestHours_91
      · simp only [fa_lt, fa_le, fa_eq] at c_23
        refine lv_aload_n hx hb dX0_fewestHours_26 rfl (lv_at hl 0 rfl) ?_
        refine lv_iload_n hx hb dX0_fewestHours_27 rfl (lv_at hl 2 rfl) ?_
        refine lv_bipush (v := 7) hx hb dX0_fewestHours_28 (by decide) ?_
        refine lv_imul hx hb dX0_fewestHours_30 ?_
        refine lv_topi (fun v30 e_v30 => ?_)
        have e_v30 : v30.toInt = a2.toInt * 7 := ml_i e_v30 rfl li_7 (by omega) (by omega)
        refine lv_iload hx hb dX0_fewestHours_31 (lv_at hl 5 rfl) ?_
        refine lv_iadd hx hb dX0_fewestHours_33 ?_
        refine lv_topi (fun v33 e_v33 => ?_)
        have e_v33 : v33.toInt = v30.toInt + p20_l5.toInt := ad_i e_v33 rfl rfl (by omega) (by omega)
        refine lv_iconst (v := 1) hx hb dX0_fewestHours_34 (by decide) ?_
        refine lv_iadd hx hb dX0_fewestHours_35 ?_
        refine lv_topi (fun v35 e_v35 => ?_)
        have e_v35 : v35.toInt = v33.toInt + 1 := ad_i e_v35 rfl li_1 (by omega) (by omega)
        refine t_iald hx hb hw k_a0 rfl rfl (by omega) (show v35.toInt < 49 by omega) dX0_fewestHours_36 (fun v36 r_v36 s_v36 q_v36 => ?_)
        have l_v36 := i32_lo v36
        have h_v36 := i32_hi v36
        refine lv_istore (lv' := [(6, .int v36), (0, .ref a0), (1, .int a1), (2, .int a2), (3, .int a3), (4, .int p20_l4), (5, .int p20_l5)]) hx hb dX0_fewestHours_37 hl (by decide) rfl (fun ls hl => ?_)
        refine lv_iload_n hx hb dX0_fewestHours_39 rfl (lv_at hl 4 rfl) ?_
        refine lv_iload hx hb dX0_fewestHours_40 (lv_at hl 6 rfl) ?_
        refine lv_ishr hx hb dX0_fewestHours_42 ?_
        refine lv_topi (fun v42 e_v42 => ?_)
        have l_v42 := i32_lo v42
        have h_v42 := i32_hi v42
        refine lv_iconst (v := 1) hx hb dX0_fewestHours_43 (by decide) ?_
        refine lv_iand hx hb dX0_fewestHours_44 ?_
        refine lv_topi (fun v44 e_v44 => ?_)
        have ⟨l_v44, h_v44⟩ : 0 ≤ v44.toInt ∧ v44.toInt ≤ 1 := and_r e_v44 li_1 (by decide)
        refine lv_iconst (v := 1) hx hb dX0_fewestHours_45 (by decide) ?_
        have J83 : ∀ (H : Heap) (locs : List Loc) (ls : Array Slot) (w83 : va_W) (p83_l4 : Int32), tW (dC, dI) tys κ B A s w83 H locs → Sm [] [] κ ws w83 → (-2147483648) ≤ p83_l4.toInt → p83_l4.toInt ≤ 1000000 → lv_has ls 7 [(0, .ref a0), (1, .int a1), (2, .int a2), (3, .int a3), (4, .int p83_l4), (5, .int p20_l5), (6, .int v36)] → W p l e (headSpec (ws_u yX0_fewestHours cX0_fewestHours 7 (some .int)) ({ frames := 4, cells := 0, slots := 0, locals := 118 })).room s m ([.ref a0, .int a1, .int a2, .int a3] : List Value).toArray below meth c H locs 0 0 QQ (F0 m 83 ls []) := by
          intro H locs ls w83 p83_l4 hw hM l_p83_l4 h_p83_l4 hl
          obtain ⟨v83, e_v83⟩ : ∃ y : Int32, y = p20_l5 + 1 := ⟨_, rfl⟩
          refine lv_iinc (v := v83) (lv' := [(5, .int v83), (0, .ref a0), (1, .int a1), (2, .int a2), (3, .int a3), (4, .int p83_l4), (6, .int v36)]) hx hb dX0_fewestHours_83 hl (k := 5) rfl e_v83.symm (by decide) rfl (fun ls hl => ?_)
          have e_v83 : v83.toInt = p20_l5.toInt + 1 := ad_i e_v83 rfl li_1 (by omega) (by omega)
          refine lv_goto (tgt := 20) hx hb dX0_fewestHours_86 (by decide) ?_
          exact ih_20 _ _ _ _ (by omega) ⟨w83, p83_l4, v83, hw, hM, (by omega), (by omega), (by omega), (by omega), (lv_sub hl [1, 2, 3, 4, 5, 0] rfl), rfl⟩
        refine lv_icmp_ne (tgt := 83) hx hb dX0_fewestHours_46 (by decide) (fun c_46 => ?_) (fun c_46 => ?_)
        · simp only [fa_lt, fa_le, fa_eq, li_1] at c_46
          exact J83 _ _ _ w20 p20_l4 hw hM (by omega) (by omega) (lv_sub hl [1, 2, 3, 4, 5, 6, 0] rfl)
        · simp only [fa_lt, fa_le, fa_eq, li_1] at c_46
          refine lv_iload hx hb dX0_fewestHours_49 (lv_at hl 0 rfl) ?_
          refine lv_iload hx hb dX0_fewestHours_51 (lv_at hl 5 rfl) ?_
          refine lv_icmp_ge (tgt := 83) hx hb dX0_fewestHours_53 (by decide) (fun c_53 => ?_) (fun c_53 => ?_)
          · simp only [fa_lt, fa_le, fa_eq] at c_53
            exact J83 _ _ _ w20 p20_l4 hw hM (by omega) (by omega) (lv_sub hl [1, 2, 3, 4, 5, 6, 0] rfl)
          · simp only [fa_lt, fa_le, fa_eq] at c_53
            refine lv_iload hx hb dX0_fewestHours_56 (lv_at hl 5 rfl) ?_
            refine lv_iload hx hb dX0_fewestHours_58 (lv_at hl 0 rfl) ?_
            refine lv_aload_n hx hb dX0_fewestHours_60 rfl (lv_at hl 1 rfl) ?_
            refine lv_iload_n hx hb dX0_fewestHours_61 rfl (lv_at hl 2 rfl) ?_
            refine lv_iload hx hb dX0_fewestHours_62 (lv_at hl 6 rfl) ?_
            refine lv_iconst (v := 1) hx hb dX0_fewestHours_64 (by decide) ?_
            refine lv_iadd hx hb dX0_fewestHours_65 ?_
            refine lv_topi (fun v65 e_v65 => ?_)
            have e_v65 : v65.toInt = p20_l5.toInt + 1 := ad_i e_v65 rfl li_1 (by omega) (by omega)
            refine lv_iload_n hx hb dX0_fewestHours_66 rfl (lv_at hl 4 rfl) ?_
            refine lv_iconst (v := 1) hx hb dX0_fewestHours_67 (by decide) ?_
            refine lv_iload hx hb dX0_fewestHours_68 (lv_at hl 6 rfl) ?_
            refine lv_ishl hx hb dX0_fewestHours_70 ?_
            refine lv_topi (fun v70 e_v70 => ?_)
            have ⟨l_v70, h_v70⟩ := sh_i e_v70 (by omega) (by omega)
            refine lv_iconst (v := (-1)) hx hb dX0_fewestHours_71 (by decide) ?_
            refine lv_ixor hx hb dX0_fewestHours_72 ?_
            refine lv_topi (fun v72 e_v72 => ?_)
            have l_v72 := i32_lo v72
            have h_v72 := i32_hi v72
            refine lv_iand hx hb dX0_fewestHours_73 ?_
            refine lv_topi (fun v73 e_v73 => ?_)
            have ⟨l_v73, h_v73⟩ : 0 ≤ v73.toInt ∧ v73.toInt ≤ a3.toInt := and_l e_v73 rfl (by omega)
            have ⟨hc_73, _, _⟩ := c6_clear e_v42 e_v44 c_46 e_v70 e_v72 e_v73 (by omega) (by omega) (by omega) (by omega)
            refine t_calli (va_runS (As := [.ref a0, .int a1, .int v65, .int v73]) (rest := [.int v36, .int p20_l4]) ⟨hx, hb, hml, hown, hts⟩ (t_X0_fewestHours_3 l dC dI tys κ B w20 hw.2.2.2.2 a0 k_a0 a1 (by omega) (by omega) v65 (by omega) (by omega) v73 (by omega) (by omega) (by omega) H.size) (va_cwS 4 hts (gUS tw_991 tw_992 tw_4 tw_993) rfl rfl rfl (by decide +kernel) ⟨(Nat.le_of_ble_eq_true rfl), (Nat.le_of_ble_eq_true rfl)⟩) ⟨cPre.blind, cPre.use hw.2.1 hw.1 hw.2.2.1 hE⟩ rfl rfl hl.1 rfl (lv_room (Nat.le_of_ble_eq_true rfl)) dX0_fewestHours_74 ⟨(Nat.le_of_ble_eq_true rfl), (Nat.le_of_ble_eq_true rfl)⟩) hw hA (fun _ _ h => h.1) (fun v74 w_1 H locs hp hw => ?_)
            obtain ⟨_, hm⟩ := hp
            have l_v74 := i32_lo v74
            have h_v74 := i32_hi v74
            have hM := hM.trans hm (by decide) (by decide)
            refine lv_iadd hx hb dX0_fewestHours_77 ?_
            refine lv_topi (fun v77 e_v77 => ?_)
            have l_v77 := i32_lo v77
            have h_v77 := i32_hi v77
            refine va_mmin hx hb (hml.trans hl.1.symm) hown (hts _ tw_614) (hts _ tw_615) (hts _ tw_19) (hts _ tw_616) (Nat.le_of_ble_eq_true rfl) (Nat.le_of_ble_eq_true rfl) (Nat.le_of_ble_eq_true rfl) (Nat.le_of_ble_eq_true rfl) dX0_fewestHours_78 ?_
            refine lv_topi (fun v78 e_v78 => ?_)
            have g_v78 := mn_i e_v78 rfl rfl
            refine lv_istore (lv' := [(4, .int v78), (6, .int v36), (0, .ref a0), (1, .int a1), (2, .int a2), (3, .int a3), (5, .int p20_l5)]) hx hb dX0_fewestHours_81 hl (by decide) rfl (fun ls hl => ?_)
            exact J83 _ _ _ w_1 v78 hw hM (by omega) (by omega) (lv_sub hl [2, 3, 4, 5, 0, 6, 1] rfl)
    exact J20 _ _ _ _ ⟨ws, 1000000, 0, hw, hM, (by decide), (by decide), (by decide), (by decide), (lv_sub hl [2, 3, 4, 5, 1, 0] rfl), rfl⟩
  · simp only [fa_lt, fa_le, fa_eq, li_0] at c_1
    refine lv_aload_n hx hb dX0_fewestHours_4 rfl (lv_at hl 0 rfl) ?_
    refine lv_iload_n hx hb dX0_fewestHours_5 rfl (lv_at hl 2 rfl) ?_
    refine lv_bipush (v := 7) hx hb dX0_fewestHours_6 (by decide) ?_
    refine lv_imul hx hb dX0_fewestHours_8 ?_
    refine lv_topi (fun v8 e_v8 => ?_)
    have e_v8 : v8.toInt = a2.toInt * 7 := ml_i e_v8 rfl li_7 (by omega) (by omega)
    refine lv_iconst (v := 0) hx hb dX0_fewestHours_9 (by decide) ?_
    refine lv_iadd hx hb dX0_fewestHours_10 ?_
    refine lv_topi (fun v10 e_v10 => ?_)
    have e_v10 : v10.toInt = v8.toInt + 0 := ad_i e_v10 rfl li_0 (by omega) (by omega)
    refine t_iald hx hb hw k_a0 rfl rfl (by omega) (show v10.toInt < 49 by omega) dX0_fewestHours_11 (fun v11 r_v11 s_v11 q_v11 => ?_)
    have l_v11 := i32_lo v11
    have h_v11 := i32_hi v11
    rw [hQ]
    refine W.widen (k := 0) (n := 0) (Nat.le_refl _) (Nat.le_refl _) ?_
    exact W.iret (v := v11) hx hb hr (fun t ht hW => ⟨⟨v11, ws, rfl, ⟨hw.2.2.2.2, hM⟩, by rw [ht]; exact hw.2.1, va_K.moved hW.alike hw.1, hw.2.2.1⟩, hw.2.2.2.1.F ht⟩) hw.2.2.2.1.2.2 dX0_fewestHours_12
set_option maxHeartbeats 4000000 in
set_option maxRecDepth 100000 in
theorem t_X0_fewestHours_5 (l : Launch) (dC : Nat → ClassId) (dI : Nat → Nat → Nat) (tys : List (ClassId × FieldType)) (κ : tK) (B : Nat) (ws : va_W) (hT : Ty κ tys B ws) (a0 : Nat) (k_a0 : κ a0 = some 28) (a1 : Int32) (l_a1 : 1 ≤ a1.toInt) (h_a1 : a1.toInt ≤ 6) (a2 : Int32) (l_a2 : 1 ≤ a2.toInt) (h_a2 : a2.toInt ≤ 6) (a3 : Int32) (l_a3 : 0 ≤ a3.toInt) (h_a3 : a3.toInt ≤ 63) (hX : c6 a3 ≤ 5) (sz : Nat) : Met l yX0_fewestHours (ws_u yX0_fewestHours cX0_fewestHours 7 (some .int)) ({ frames := 5, cells := 0, slots := 0, locals := 144 }) (va_Pc [.ref a0, .int a1, .int a2, .int a3] (cPre (dC, dI) tys ws sz)) (va_Qi (fun (r : Int32) (w : va_W) => Ty κ tys B w ∧ Sm [] [] κ ws w) (fun w t => cPost (dC, dI) tys w (va_A ws sz) t) (va_A ws sz)) 0 0 (va_A ws sz) := by
  refine Met.ofW (cc := cX0_fewestHours) (maxL := 7) (ret := (some .int)) (by decide) rfl ?_
  intro p e s m args below meth c s₁ B0 hml hv
  obtain ⟨rfl, hsz, hP, hK, hD0, hE⟩ := hv
  have hx := B0.exec
  have hb := B0.bytes
  have hr := B0.returns
  have hts0 := atoms_spec (ws := ws_u yX0_fewestHours cX0_fewestHours 7 (some .int)) B0.pre
  have hts : ∀ w ∈ gT, w.before _ s = true := fun w h => hts0 w (List.mem_cons_of_mem _ h)
  have hown : s.vm.findClass RX0 = some m.cls := findClass_of_methodNamed B0.named
  have hlocks := B0.notSynchronized
  subst hsz
  have hD := hD0.self (sz := s.heap.size)
  generalize hAe : va_A ws s.heap.size = A at hD ⊢
  have hA : ∀ q : Nat, s.heap.size ≤ q → A q := fun q h => by rw [← hAe]; exact Or.inr h
  have hw : tW (dC, dI) tys κ B A s ws s.heap [] := ⟨hK, hP, hD, va_S.rf, hT⟩
  have hM : Sm [] [] κ ws ws := Sm.rf
  clear hP hK hD hD0 hts0
  have hl := lv_entry ([.ref a0, .int a1, .int a2, .int a3]) (n := 7) (Nat.le_of_ble_eq_true rfl)
  rw [lg_entry_eq]
  generalize (lg_sl ([.ref a0, .int a1, .int a2, .int a3]) ++ List.replicate (7 - (lg_sl ([.ref a0, .int a1, .int a2, .int a3])).length) Slot.unset).toArray = ls at hl ⊢
  have hl : lv_has ls 7 [(0, .ref a0), (1, .int a1), (2, .int a2), (3, .int a3)] := hl
  refine t_start (fun QQ hQ => ?_)
  refine lv_iload_n hx hb dX0_fewestHours_0 rfl (lv_at hl 3 rfl) ?_
  refine lv_if_ne (tgt := 13) hx hb dX0_fewestHours_1 (by decide) (fun c_1 => ?_) (fun c_1 => ?_)
  · simp only [fa_lt, fa_le, fa_eq, li_0] at c_1
    refine lv_ldc (v := 1000000) hx hb hown (hts _ tw_491) dX0_fewestHours_13 ?_
    refine lv_istore (lv' := [(4, .int 1000000), (0, .ref a0), (1, .int a1), (2, .int a2), (3, .int a3)]) hx hb dX0_fewestHours_15 hl (by decide) rfl (fun ls hl => ?_)
    refine lv_iconst (v := 0) hx hb dX0_fewestHours_17 (by decide) ?_
    refine lv_istore (lv' := [(5, .int 0), (4, .int 1000000), (0, .ref a0), (1, .int a1), (2, .int a2), (3, .int a3)]) hx hb dX0_fewestHours_18 hl (by decide) rfl (fun ls hl => ?_)
    have J20 : ∀ (n : Nat) (H : Heap) (locs : List Loc) (ls : Array Slot), (∃ (w20 : va_W) (p20_l4 : Int32) (p20_l5 : Int32), tW (dC, dI) tys κ B A s w20 H locs ∧ Sm [] [] κ ws w20 ∧ (-2147483648) ≤ p20_l4.toInt ∧ p20_l4.toInt ≤ 1000000 ∧ 0 ≤ p20_l5.toInt ∧ p20_l5.toInt ≤ 6 ∧ lv_has ls 7 [(0, .ref a0), (1, .int a1), (2, .int a2), (3, .int a3), (4, .int p20_l4), (5, .int p20_l5)] ∧ (6 - p20_l5.toInt).toNat = n) → W p l e (headSpec (ws_u yX0_fewestHours cX0_fewestHours 7 (some .int)) ({ frames := 5, cells := 0, slots := 0, locals := 144 })).room s m ([.ref a0, .int a1, .int a2, .int a3] : List Value).toArray below meth c H locs 0 0 QQ (F0 m 20 ls []) := by
      refine loopT _ ?_
      intro n_20 H locs ls hI ih_20
      obtain ⟨w20, p20_l4, p20_l5, hw, hM, l_p20_l4, h_p20_l4, l_p20_l5, h_p20_l5, hl, hn_20⟩ := hI
      refine lv_iload hx hb dX0_fewestHours_20 (lv_at hl 5 rfl) ?_
      refine lv_iload_n hx hb dX0_fewestHours_22 rfl (lv_at hl 1 rfl) ?_
      refine lv_icmp_ge (tgt := 89) hx hb dX0_fewestHours_23 (by decide) (fun c_23 => ?_) (fun c_23 => ?_)
      · simp only [fa_lt, fa_le, fa_eq] at c_23
        refine lv_iload hx hb dX0_fewestHours_89 (lv_at hl 4 rfl) ?_
        rw [hQ]
        refine W.widen (k := 0) (n := 0) (Nat.le_refl _) (Nat.le_refl _) ?_
        exact W.iret (v := p20_l4) hx hb hr (fun t ht hW => ⟨⟨p20_l4, w20, rfl, ⟨hw.2.2.2.2, hM⟩, by rw [ht]; exact hw.2.1, va_K.moved hW.alike hw.1, hw.2.2.1⟩, hw.2.2.2.1.F ht⟩) hw.2.2.2.1.2.2 dX0_fewestHours_91
      · simp only [fa_lt, fa_le, fa_eq] at c_23
        refine lv_aload_n hx hb dX0_fewestHours_26 rfl (lv_at hl 0 rfl) ?_
        refine lv_iload_n hx hb dX0_fewestHours_27 rfl (lv_at hl 2 rfl) ?_
        refine lv_bipush (v := 7) hx hb dX0_fewestHours_28 (by decide) ?_
        refine lv_imul hx hb dX0_fewestHours_30 ?_
        refine lv_topi (fun v30 e_v30 => ?_)
        have e_v30 : v30.toInt = a2.toInt * 7 := ml_i e_v30 rfl li_7 (by omega) (by omega)
        refine lv_iload hx hb dX0_fewestHours_31 (lv_at hl 5 rfl) ?_
        refine lv_iadd hx hb dX0_fewestHours_33 ?_
        refine lv_topi (fun v33 e_v33 => ?_)
        have e_v33 : v33.toInt = v30.toInt + p20_l5.toInt := ad_i e_v33 rfl rfl (by omega) (by omega)
        refine lv_iconst (v := 1) hx hb dX0_fewestHours_34 (by decide) ?_
        refine lv_iadd hx hb dX0_fewestHours_35 ?_
        refine lv_topi (fun v35 e_v35 => ?_)
        have e_v35 : v35.toInt = v33.toInt + 1 := ad_i e_v35 rfl li_1 (by omega) (by omega)
        refine t_iald hx hb hw k_a0 rfl rfl (by omega) (show v35.toInt < 49 by omega) dX0_fewestHours_36 (fun v36 r_v36 s_v36 q_v36 => ?_)
        have l_v36 := i32_lo v36
        have h_v36 := i32_hi v36
        refine lv_istore (lv' := [(6, .int v36), (0, .ref a0), (1, .int a1), (2, .int a2), (3, .int a3), (4, .int p20_l4), (5, .int p20_l5)]) hx hb dX0_fewestHours_37 hl (by decide) rfl (fun ls hl => ?_)
        refine lv_iload_n hx hb dX0_fewestHours_39 rfl (lv_at hl 4 rfl) ?_
        refine lv_iload hx hb dX0_fewestHours_40 (lv_at hl 6 rfl) ?_
        refine lv_ishr hx hb dX0_fewestHours_42 ?_
        refine lv_topi (fun v42 e_v42 => ?_)
        have l_v42 := i32_lo v42
        have h_v42 := i32_hi v42
        refine lv_iconst (v := 1) hx hb dX0_fewestHours_43 (by decide) ?_
        refine lv_iand hx hb dX0_fewestHours_44 ?_
        refine lv_topi (fun v44 e_v44 => ?_)
        have ⟨l_v44, h_v44⟩ : 0 ≤ v44.toInt ∧ v44.toInt ≤ 1 := and_r e_v44 li_1 (by decide)
        refine lv_iconst (v := 1) hx hb dX0_fewestHours_45 (by decide) ?_
        have J83 : ∀ (H : Heap) (locs : List Loc) (ls : Array Slot) (w83 : va_W) (p83_l4 : Int32), tW (dC, dI) tys κ B A s w83 H locs → Sm [] [] κ ws w83 → (-2147483648) ≤ p83_l4.toInt → p83_l4.toInt ≤ 1000000 → lv_has ls 7 [(0, .ref a0), (1, .int a1), (2, .int a2), (3, .int a3), (4, .int p83_l4), (5, .int p20_l5), (6, .int v36)] → W p l e (headSpec (ws_u yX0_fewestHours cX0_fewestHours 7 (some .int)) ({ frames := 5, cells := 0, slots := 0, locals := 144 })).room s m ([.ref a0, .int a1, .int a2, .int a3] : List Value).toArray below meth c H locs 0 0 QQ (F0 m 83 ls []) := by
          intro H locs ls w83 p83_l4 hw hM l_p83_l4 h_p83_l4 hl
          obtain ⟨v83, e_v83⟩ : ∃ y : Int32, y = p20_l5 + 1 := ⟨_, rfl⟩
          refine lv_iinc (v := v83) (lv' := [(5, .int v83), (0, .ref a0), (1, .int a1), (2, .int a2), (3, .int a3), (4, .int p83_l4), (6, .int v36)]) hx hb dX0_fewestHours_83 hl (k := 5) rfl e_v83.symm (by decide) rfl (fun ls hl => ?_)
          have e_v83 : v83.toInt = p20_l5.toInt + 1 := ad_i e_v83 rfl li_1 (by omega) (by omega)
          refine lv_goto (tgt := 20) hx hb dX0_fewestHours_86 (by decide) ?_
          exact ih_20 _ _ _ _ (by omega) ⟨w83, p83_l4, v83, hw, hM, (by omega), (by omega), (by omega), (by omega), (lv_sub hl [1, 2, 3, 4, 5, 0] rfl), rfl⟩
        refine lv_icmp_ne (tgt := 83) hx hb dX0_fewestHours_46 (by decide) (fun c_46 => ?_) (fun c_46 => ?_)
        · simp only [fa_lt, fa_le, fa_eq, li_1] at c_46
          exact J83 _ _ _ w20 p20_l4 hw hM (by omega) (by omega) (lv_sub hl [1, 2, 3, 4, 5, 6, 0] rfl)
        · simp only [fa_lt, fa_le, fa_eq, li_1] at c_46
          refine lv_iload hx hb dX0_fewestHours_49 (lv_at hl 0 rfl) ?_
          refine lv_iload hx hb dX0_fewestHours_51 (lv_at hl 5 rfl) ?_
          refine lv_icmp_ge (tgt := 83) hx hb dX0_fewestHours_53 (by decide) (fun c_53 => ?_) (fun c_53 => ?_)
          · simp only [fa_lt, fa_le, fa_eq] at c_53
            exact J83 _ _ _ w20 p20_l4 hw hM (by omega) (by omega) (lv_sub hl [1, 2, 3, 4, 5, 6, 0] rfl)
          · simp only [fa_lt, fa_le, fa_eq] at c_53
            refine lv_iload hx hb dX0_fewestHours_56 (lv_at hl 5 rfl) ?_
            refine lv_iload hx hb dX0_fewestHours_58 (lv_at hl 0 rfl) ?_
            refine lv_aload_n hx hb dX0_fewestHours_60 rfl (lv_at hl 1 rfl) ?_
            refine lv_iload_n hx hb dX0_fewestHours_61 rfl (lv_at hl 2 rfl) ?_
            refine lv_iload hx hb dX0_fewestHours_62 (lv_at hl 6 rfl) ?_
            refine lv_iconst (v := 1) hx hb dX0_fewestHours_64 (by decide) ?_
            refine lv_iadd hx hb dX0_fewestHours_65 ?_
            refine lv_topi (fun v65 e_v65 => ?_)
            have e_v65 : v65.toInt = p20_l5.toInt + 1 := ad_i e_v65 rfl li_1 (by omega) (by omega)
            refine lv_iload_n hx hb dX0_fewestHours_66 rfl (lv_at hl 4 rfl) ?_
            refine lv_iconst (v := 1) hx hb dX0_fewestHours_67 (by decide) ?_
            refine lv_iload hx hb dX0_fewestHours_68 (lv_at hl 6 rfl) ?_
            refine lv_ishl hx hb dX0_fewestHours_70 ?_
            refine lv_topi (fun v70 e_v70 => ?_)
            have ⟨l_v70, h_v70⟩ := sh_i e_v70 (by omega) (by omega)
            refine lv_iconst (v := (-1)) hx hb dX0_fewestHours_71 (by decide) ?_
            refine lv_ixor hx hb dX0_fewestHours_72 ?_
            refine lv_topi (fun v72 e_v72 => ?_)
            have l_v72 := i32_lo v72
            have h_v72 := i32_hi v72
            refine lv_iand hx hb dX0_fewestHours_73 ?_
            refine lv_topi (fun v73 e_v73 => ?_)
            have ⟨l_v73, h_v73⟩ : 0 ≤ v73.toInt ∧ v73.toInt ≤ a3.toInt := and_l e_v73 rfl (by omega)
            have ⟨hc_73, _, _⟩ := c6_clear e_v42 e_v44 c_46 e_v70 e_v72 e_v73 (by omega) (by omega) (by omega) (by omega)
            refine t_calli (va_runS (As := [.ref a0, .int a1, .int v65, .int v73]) (rest := [.int v36, .int p20_l4]) ⟨hx, hb, hml, hown, hts⟩ (t_X0_fewestHours_4 l dC dI tys κ B w20 hw.2.2.2.2 a0 k_a0 a1 (by omega) (by omega) v65 (by omega) (by omega) v73 (by omega) (by omega) (by omega) H.size) (va_cwS 4 hts (gUS tw_991 tw_992 tw_4 tw_993) rfl rfl rfl (by decide +kernel) ⟨(Nat.le_of_ble_eq_true rfl), (Nat.le_of_ble_eq_true rfl)⟩) ⟨cPre.blind, cPre.use hw.2.1 hw.1 hw.2.2.1 hE⟩ rfl rfl hl.1 rfl (lv_room (Nat.le_of_ble_eq_true rfl)) dX0_fewestHours_74 ⟨(Nat.le_of_ble_eq_true rfl), (Nat.le_of_ble_eq_true rfl)⟩) hw hA (fun _ _ h => h.1) (fun v74 w_1 H locs hp hw => ?_)
            obtain ⟨_, hm⟩ := hp
            have l_v74 := i32_lo v74
            have h_v74 := i32_hi v74
            have hM := hM.trans hm (by decide) (by decide)
            refine lv_iadd hx hb dX0_fewestHours_77 ?_
            refine lv_topi (fun v77 e_v77 => ?_)
            have l_v77 := i32_lo v77
            have h_v77 := i32_hi v77
            refine va_mmin hx hb (hml.trans hl.1.symm) hown (hts _ tw_614) (hts _ tw_615) (hts _ tw_19) (hts _ tw_616) (Nat.le_of_ble_eq_true rfl) (Nat.le_of_ble_eq_true rfl) (Nat.le_of_ble_eq_true rfl) (Nat.le_of_ble_eq_true rfl) dX0_fewestHours_78 ?_
            refine lv_topi (fun v78 e_v78 => ?_)
            have g_v78 := mn_i e_v78 rfl rfl
            refine lv_istore (lv' := [(4, .int v78), (6, .int v36), (0, .ref a0), (1, .int a1), (2, .int a2), (3, .int a3), (5, .int p20_l5)]) hx hb dX0_fewestHours_81 hl (by decide) rfl (fun ls hl => ?_)
            exact J83 _ _ _ w_1 v78 hw hM (by omega) (by omega) (lv_sub hl [2, 3, 4, 5, 0, 6, 1] rfl)
    exact J20 _ _ _ _ ⟨ws, 1000000, 0, hw, hM, (by decide), (by decide), (by decide), (by decide), (lv_sub hl [2, 3, 4, 5, 1, 0] rfl), rfl⟩
  · simp only [fa_lt, fa_le, fa_eq, li_0] at c_1
    refine lv_aload_n hx hb dX0_fewestHours_4 rfl (lv_at hl 0 rfl) ?_
    refine lv_iload_n hx hb dX0_fewestHours_5 rfl (lv_at hl 2 rfl) ?_
    refine lv_bipush (v := 7) hx hb dX0_fewestHours_6 (by decide) ?_
    refine lv_imul hx hb dX0_fewestHours_8 ?_
    refine lv_topi (fun v8 e_v8 => ?_)
    have e_v8 : v8.toInt = a2.toInt * 7 := ml_i e_v8 rfl li_7 (by omega) (by omega)
    refine lv_iconst (v := 0) hx hb dX0_fewestHours_9 (by decide) ?_
    refine lv_iadd hx hb dX0_fewestHours_10 ?_
    refine lv_topi (fun v10 e_v10 => ?_)
    have e_v10 : v10.toInt = v8.toInt + 0 := ad_i e_v10 rfl li_0 (by omega) (by omega)
    refine t_iald hx hb hw k_a0 rfl rfl (by omega) (show v10.toInt < 49 by omega) dX0_fewestHours_11 (fun v11 r_v11 s_v11 q_v11 => ?_)
    have l_v11 := i32_lo v11
    have h_v11 := i32_hi v11
    rw [hQ]
    refine W.widen (k := 0) (n := 0) (Nat.le_refl _) (Nat.le_refl _) ?_
    exact W.iret (v := v11) hx hb hr (fun t ht hW => ⟨⟨v11, ws, rfl, ⟨hw.2.2.2.2, hM⟩, by rw [ht]; exact hw.2.1, va_K.moved hW.alike hw.1, hw.2.2.1⟩, hw.2.2.2.1.F ht⟩) hw.2.2.2.1.2.2 dX0_fewestHours_12
set_option maxHeartbeats 4000000 in
set_option maxRecDepth 100000 in
theorem t_X0_fewestHours_6 (l : Launch) (dC : Nat → ClassId) (dI : Nat → Nat → Nat) (tys : List (ClassId × FieldType)) (κ : tK) (B : Nat) (ws : va_W) (hT : Ty κ tys B ws) (a0 : Nat) (k_a0 : κ a0 = some 28) (a1 : Int32) (l_a1 : 0 ≤ a1.toInt) (h_a1 : a1.toInt ≤ 6) (a2 : Int32) (l_a2 : 0 ≤ a2.toInt) (h_a2 : a2.toInt ≤ 0) (a3 : Int32) (l_a3 : 0 ≤ a3.toInt) (h_a3 : a3.toInt ≤ 63) (hX : c6 a3 ≤ 6) (sz : Nat) : Met l yX0_fewestHours (ws_u yX0_fewestHours cX0_fewestHours 7 (some .int)) ({ frames := 6, cells := 0, slots := 0, locals := 170 }) (va_Pc [.ref a0, .int a1, .int a2, .int a3] (cPre (dC, dI) tys ws sz)) (va_Qi (fun (r : Int32) (w : va_W) => Ty κ tys B w ∧ Sm [] [] κ ws w) (fun w t => cPost (dC, dI) tys w (va_A ws sz) t) (va_A ws sz)) 0 0 (va_A ws sz) := by
  refine Met.ofW (cc := cX0_fewestHours) (maxL := 7) (ret := (some .int)) (by decide) rfl ?_
  intro p e s m args below meth c s₁ B0 hml hv
  obtain ⟨rfl, hsz, hP, hK, hD0, hE⟩ := hv
  have hx := B0.exec
  have hb := B0.bytes
  have hr := B0.returns
  have hts0 := atoms_spec (ws := ws_u yX0_fewestHours cX0_fewestHours 7 (some .int)) B0.pre
  have hts : ∀ w ∈ gT, w.before _ s = true := fun w h => hts0 w (List.mem_cons_of_mem _ h)
  have hown : s.vm.findClass RX0 = some m.cls := findClass_of_methodNamed B0.named
  have hlocks := B0.notSynchronized
  subst hsz
  have hD := hD0.self (sz := s.heap.size)
  generalize hAe : va_A ws s.heap.size = A at hD ⊢
  have hA : ∀ q : Nat, s.heap.size ≤ q → A q := fun q h => by rw [← hAe]; exact Or.inr h
  have hw : tW (dC, dI) tys κ B A s ws s.heap [] := ⟨hK, hP, hD, va_S.rf, hT⟩
  have hM : Sm [] [] κ ws ws := Sm.rf
  clear hP hK hD hD0 hts0
  have hl := lv_entry ([.ref a0, .int a1, .int a2, .int a3]) (n := 7) (Nat.le_of_ble_eq_true rfl)
  rw [lg_entry_eq]
  generalize (lg_sl ([.ref a0, .int a1, .int a2, .int a3]) ++ List.replicate (7 - (lg_sl ([.ref a0, .int a1, .int a2, .int a3])).length) Slot.unset).toArray = ls at hl ⊢
  have hl : lv_has ls 7 [(0, .ref a0), (1, .int a1), (2, .int a2), (3, .int a3)] := hl
  refine t_start (fun QQ hQ => ?_)
  refine lv_iload_n hx hb dX0_fewestHours_0 rfl (lv_at hl 3 rfl) ?_
  refine lv_if_ne (tgt := 13) hx hb dX0_fewestHours_1 (by decide) (fun c_1 => ?_) (fun c_1 => ?_)
  · simp only [fa_lt, fa_le, fa_eq, li_0] at c_1
    refine lv_ldc (v := 1000000) hx hb hown (hts _ tw_491) dX0_fewestHours_13 ?_
    refine lv_istore (lv' := [(4, .int 1000000), (0, .ref a0), (1, .int a1), (2, .int a2), (3, .int a3)]) hx hb dX0_fewestHours_15 hl (by decide) rfl (fun ls hl => ?_)
    refine lv_iconst (v := 0) hx hb dX0_fewestHours_17 (by decide) ?_
    refine lv_istore (lv' := [(5, .int 0), (4, .int 1000000), (0, .ref a0), (1, .int a1), (2, .int a2), (3, .int a3)]) hx hb dX0_fewestHours_18 hl (by decide) rfl (fun ls hl => ?_)
    have J20 : ∀ (n : Nat) (H : Heap) (locs : List Loc) (ls : Array Slot), (∃ (w20 : va_W) (p20_l4 : Int32) (p20_l5 : Int32), tW (dC, dI) tys κ B A s w20 H locs ∧ Sm [] [] κ ws w20 ∧ (-2147483648) ≤ p20_l4.toInt ∧ p20_l4.toInt ≤ 1000000 ∧ 0 ≤ p20_l5.toInt ∧ p20_l5.toInt ≤ 6 ∧ lv_has ls 7 [(0, .ref a0), (1, .int a1), (2, .int a2), (3, .int a3), (4, .int p20_l4), (5, .int p20_l5)] ∧ (6 - p20_l5.toInt).toNat = n) → W p l e (headSpec (ws_u yX0_fewestHours cX0_fewestHours 7 (some .int)) ({ frames := 6, cells := 0, slots := 0, locals := 170 })).room s m ([.ref a0, .int a1, .int a2, .int a3] : List Value).toArray below meth c H locs 0 0 QQ (F0 m 20 ls []) := by
      refine loopT _ ?_
      intro n_20 H locs ls hI ih_20
      obtain ⟨w20, p20_l4, p20_l5, hw, hM, l_p20_l4, h_p20_l4, l_p20_l5, h_p20_l5, hl, hn_20⟩ := hI
      refine lv_iload hx hb dX0_fewestHours_20 (lv_at hl 5 rfl) ?_
      refine lv_iload_n hx hb dX0_fewestHours_22 rfl (lv_at hl 1 rfl) ?_
      refine lv_icmp_ge (tgt := 89) hx hb dX0_fewestHours_23 (by decide) (fun c_23 => ?_) (fun c_23 => ?_)
      · simp only [fa_lt, fa_le, fa_eq] at c_23
        refine lv_iload hx hb dX0_fewestHours_89 (lv_at hl 4 rfl) ?_
        rw [hQ]
        refine W.widen (k := 0) (n := 0) (Nat.le_refl _) (Nat.le_refl _) ?_
        exact W.iret (v := p20_l4) hx hb hr (fun t ht hW => ⟨⟨p20_l4, w20, rfl, ⟨hw.2.2.2.2, hM⟩, by rw [ht]; exact hw.2.1, va_K.moved hW.alike hw.1, hw.2.2.1⟩, hw.2.2.2.1.F ht⟩) hw.2.2.2.1.2.2 dX0_fewestHours_91
      · simp only [fa_lt, fa_le, fa_eq] at c_23
        refine lv_aload_n hx hb dX0_fewestHours_26 rfl (lv_at hl 0 rfl) ?_
        refine lv_iload_n hx hb dX0_fewestHours_27 rfl (lv_at hl 2 rfl) ?_
        refine lv_bipush (v := 7) hx hb dX0_fewestHours_28 (by decide) ?_
        refine lv_imul hx hb dX0_fewestHours_30 ?_
        refine lv_topi (fun v30 e_v30 => ?_)
        have e_v30 : v30.toInt = a2.toInt * 7 := ml_i e_v30 rfl li_7 (by omega) (by omega)
        refine lv_iload hx hb dX0_fewestHours_31 (lv_at hl 5 rfl) ?_
        refine lv_iadd hx hb dX0_fewestHours_33 ?_
        refine lv_topi (fun v33 e_v33 => ?_)
        have e_v33 : v33.toInt = v30.toInt + p20_l5.toInt := ad_i e_v33 rfl rfl (by omega) (by omega)
        refine lv_iconst (v := 1) hx hb dX0_fewestHours_34 (by decide) ?_
        refine lv_iadd hx hb dX0_fewestHours_35 ?_
        refine lv_topi (fun v35 e_v35 => ?_)
        have e_v35 : v35.toInt = v33.toInt + 1 := ad_i e_v35 rfl li_1 (by omega) (by omega)
        refine t_iald hx hb hw k_a0 rfl rfl (by omega) (show v35.toInt < 49 by omega) dX0_fewestHours_36 (fun v36 r_v36 s_v36 q_v36 => ?_)
        have l_v36 := i32_lo v36
        have h_v36 := i32_hi v36
        refine lv_istore (lv' := [(6, .int v36), (0, .ref a0), (1, .int a1), (2, .int a2), (3, .int a3), (4, .int p20_l4), (5, .int p20_l5)]) hx hb dX0_fewestHours_37 hl (by decide) rfl (fun ls hl => ?_)
        refine lv_iload_n hx hb dX0_fewestHours_39 rfl (lv_at hl 4 rfl) ?_
        refine lv_iload hx hb dX0_fewestHours_40 (lv_at hl 6 rfl) ?_
        refine lv_ishr hx hb dX0_fewestHours_42 ?_
        refine lv_topi (fun v42 e_v42 => ?_)
        have l_v42 := i32_lo v42
        have h_v42 := i32_hi v42
        refine lv_iconst (v := 1) hx hb dX0_fewestHours_43 (by decide) ?_
        refine lv_iand hx hb dX0_fewestHours_44 ?_
        refine lv_topi (fun v44 e_v44 => ?_)
        have ⟨l_v44, h_v44⟩ : 0 ≤ v44.toInt ∧ v44.toInt ≤ 1 := and_r e_v44 li_1 (by decide)
        refine lv_iconst (v := 1) hx hb dX0_fewestHours_45 (by decide) ?_
        have J83 : ∀ (H : Heap) (locs : List Loc) (ls : Array Slot) (w83 : va_W) (p83_l4 : Int32), tW (dC, dI) tys κ B A s w83 H locs → Sm [] [] κ ws w83 → (-2147483648) ≤ p83_l4.toInt → p83_l4.toInt ≤ 1000000 → lv_has ls 7 [(0, .ref a0), (1, .int a1), (2, .int a2), (3, .int a3), (4, .int p83_l4), (5, .int p20_l5), (6, .int v36)] → W p l e (headSpec (ws_u yX0_fewestHours cX0_fewestHours 7 (some .int)) ({ frames := 6, cells := 0, slots := 0, locals := 170 })).room s m ([.ref a0, .int a1, .int a2, .int a3] : List Value).toArray below meth c H locs 0 0 QQ (F0 m 83 ls []) := by
          intro H locs ls w83 p83_l4 hw hM l_p83_l4 h_p83_l4 hl
          obtain ⟨v83, e_v83⟩ : ∃ y : Int32, y = p20_l5 + 1 := ⟨_, rfl⟩
          refine lv_iinc (v := v83) (lv' := [(5, .int v83), (0, .ref a0), (1, .int a1), (2, .int a2), (3, .int a3), (4, .int p83_l4), (6, .int v36)]) hx hb dX0_fewestHours_83 hl (k := 5) rfl e_v83.symm (by decide) rfl (fun ls hl => ?_)
          have e_v83 : v83.toInt = p20_l5.toInt + 1 := ad_i e_v83 rfl li_1 (by omega) (by omega)
          refine lv_goto (tgt := 20) hx hb dX0_fewestHours_86 (by decide) ?_
          exact ih_20 _ _ _ _ (by omega) ⟨w83, p83_l4, v83, hw, hM, (by omega), (by omega), (by omega), (by omega), (lv_sub hl [1, 2, 3, 4, 5, 0] rfl), rfl⟩
        refine lv_icmp_ne (tgt := 83) hx hb dX0_fewestHours_46 (by decide) (fun c_46 => ?_) (fun c_46 => ?_)
        · simp only [fa_lt, fa_le, fa_eq, li_1] at c_46
          exact J83 _ _ _ w20 p20_l4 hw hM (by omega) (by omega) (lv_sub hl [1, 2, 3, 4, 5, 6, 0] rfl)
        · simp only [fa_lt, fa_le, fa_eq, li_1] at c_46
          refine lv_iload hx hb dX0_fewestHours_49 (lv_at hl 0 rfl) ?_
          refine lv_iload hx hb dX0_fewestHours_51 (lv_at hl 5 rfl) ?_
          refine lv_icmp_ge (tgt := 83) hx hb dX0_fewestHours_53 (by decide) (fun c_53 => ?_) (fun c_53 => ?_)
          · simp only [fa_lt, fa_le, fa_eq] at c_53
            exact J83 _ _ _ w20 p20_l4 hw hM (by omega) (by omega) (lv_sub hl [1, 2, 3, 4, 5, 6, 0] rfl)
          · simp only [fa_lt, fa_le, fa_eq] at c_53
            refine lv_iload hx hb dX0_fewestHours_56 (lv_at hl 5 rfl) ?_
            refine lv_iload hx hb dX0_fewestHours_58 (lv_at hl 0 rfl) ?_
            refine lv_aload_n hx hb dX0_fewestHours_60 rfl (lv_at hl 1 rfl) ?_
            refine lv_iload_n hx hb dX0_fewestHours_61 rfl (lv_at hl 2 rfl) ?_
            refine lv_iload hx hb dX0_fewestHours_62 (lv_at hl 6 rfl) ?_
            refine lv_iconst (v := 1) hx hb dX0_fewestHours_64 (by decide) ?_
            refine lv_iadd hx hb dX0_fewestHours_65 ?_
            refine lv_topi (fun v65 e_v65 => ?_)
            have e_v65 : v65.toInt = p20_l5.toInt + 1 := ad_i e_v65 rfl li_1 (by omega) (by omega)
            refine lv_iload_n hx hb dX0_fewestHours_66 rfl (lv_at hl 4 rfl) ?_
            refine lv_iconst (v := 1) hx hb dX0_fewestHours_67 (by decide) ?_
            refine lv_iload hx hb dX0_fewestHours_68 (lv_at hl 6 rfl) ?_
            refine lv_ishl hx hb dX0_fewestHours_70 ?_
            refine lv_topi (fun v70 e_v70 => ?_)
            have ⟨l_v70, h_v70⟩ := sh_i e_v70 (by omega) (by omega)
            refine lv_iconst (v := (-1)) hx hb dX0_fewestHours_71 (by decide) ?_
            refine lv_ixor hx hb dX0_fewestHours_72 ?_
            refine lv_topi (fun v72 e_v72 => ?_)
            have l_v72 := i32_lo v72
            have h_v72 := i32_hi v72
            refine lv_iand hx hb dX0_fewestHours_73 ?_
            refine lv_topi (fun v73 e_v73 => ?_)
            have ⟨l_v73, h_v73⟩ : 0 ≤ v73.toInt ∧ v73.toInt ≤ a3.toInt := and_l e_v73 rfl (by omega)
            have ⟨hc_73, _, _⟩ := c6_clear e_v42 e_v44 c_46 e_v70 e_v72 e_v73 (by omega) (by omega) (by omega) (by omega)
            refine t_calli (va_runS (As := [.ref a0, .int a1, .int v65, .int v73]) (rest := [.int v36, .int p20_l4]) ⟨hx, hb, hml, hown, hts⟩ (t_X0_fewestHours_5 l dC dI tys κ B w20 hw.2.2.2.2 a0 k_a0 a1 (by omega) (by omega) v65 (by omega) (by omega) v73 (by omega) (by omega) (by omega) H.size) (va_cwS 4 hts (gUS tw_991 tw_992 tw_4 tw_993) rfl rfl rfl (by decide +kernel) ⟨(Nat.le_of_ble_eq_true rfl), (Nat.le_of_ble_eq_true rfl)⟩) ⟨cPre.blind, cPre.use hw.2.1 hw.1 hw.2.2.1 hE⟩ rfl rfl hl.1 rfl (lv_room (Nat.le_of_ble_eq_true rfl)) dX0_fewestHours_74 ⟨(Nat.le_of_ble_eq_true rfl), (Nat.le_of_ble_eq_true rfl)⟩) hw hA (fun _ _ h => h.1) (fun v74 w_1 H locs hp hw => ?_)
            obtain ⟨_, hm⟩ := hp
            have l_v74 := i32_lo v74
            have h_v74 := i32_hi v74
            have hM := hM.trans hm (by decide) (by decide)
            refine lv_iadd hx hb dX0_fewestHours_77 ?_
            refine lv_topi (fun v77 e_v77 => ?_)
            have l_v77 := i32_lo v77
            have h_v77 := i32_hi v77
            refine va_mmin hx hb (hml.trans hl.1.symm) hown (hts _ tw_614) (hts _ tw_615) (hts _ tw_19) (hts _ tw_616) (Nat.le_of_ble_eq_true rfl) (Nat.le_of_ble_eq_true rfl) (Nat.le_of_ble_eq_true rfl) (Nat.le_of_ble_eq_true rfl) dX0_fewestHours_78 ?_
            refine lv_topi (fun v78 e_v78 => ?_)
            have g_v78 := mn_i e_v78 rfl rfl
            refine lv_istore (lv' := [(4, .int v78), (6, .int v36), (0, .ref a0), (1, .int a1), (2, .int a2), (3, .int a3), (5, .int p20_l5)]) hx hb dX0_fewestHours_81 hl (by decide) rfl (fun ls hl => ?_)
            exact J83 _ _ _ w_1 v78 hw hM (by omega) (by omega) (lv_sub hl [2, 3, 4, 5, 0, 6, 1] rfl)
    exact J20 _ _ _ _ ⟨ws, 1000000, 0, hw, hM, (by decide), (by decide), (by decide), (by decide), (lv_sub hl [2, 3, 4, 5, 1, 0] rfl), rfl⟩
  · simp only [fa_lt, fa_le, fa_eq, li_0] at c_1
    refine lv_aload_n hx hb dX0_fewestHours_4 rfl (lv_at hl 0 rfl) ?_
    refine lv_iload_n hx hb dX0_fewestHours_5 rfl (lv_at hl 2 rfl) ?_
    refine lv_bipush (v := 7) hx hb dX0_fewestHours_6 (by decide) ?_
    refine lv_imul hx hb dX0_fewestHours_8 ?_
    refine lv_topi (fun v8 e_v8 => ?_)
    have e_v8 : v8.toInt = a2.toInt * 7 := ml_i e_v8 rfl li_7 (by omega) (by omega)
    refine lv_iconst (v := 0) hx hb dX0_fewestHours_9 (by decide) ?_
    refine lv_iadd hx hb dX0_fewestHours_10 ?_
    refine lv_topi (fun v10 e_v10 => ?_)
    have e_v10 : v10.toInt = v8.toInt + 0 := ad_i e_v10 rfl li_0 (by omega) (by omega)
    refine t_iald hx hb hw k_a0 rfl rfl (by omega) (show v10.toInt < 49 by omega) dX0_fewestHours_11 (fun v11 r_v11 s_v11 q_v11 => ?_)
    have l_v11 := i32_lo v11
    have h_v11 := i32_hi v11
    rw [hQ]
    refine W.widen (k := 0) (n := 0) (Nat.le_refl _) (Nat.le_refl _) ?_
    exact W.iret (v := v11) hx hb hr (fun t ht hW => ⟨⟨v11, ws, rfl, ⟨hw.2.2.2.2, hM⟩, by rw [ht]; exact hw.2.1, va_K.moved hW.alike hw.1, hw.2.2.1⟩, hw.2.2.2.1.F ht⟩) hw.2.2.2.1.2.2 dX0_fewestHours_12
set_option maxHeartbeats 4000000 in
set_option maxRecDepth 100000 in
theorem t_X0_hoursBetween (l : Launch) (dC : Nat → ClassId) (dI : Nat → Nat → Nat) (tys : List (ClassId × FieldType)) (κ : tK) (B : Nat) (ws : va_W) (hT : Ty κ tys B ws) (a0 : Nat) (k_a0 : κ a0 = some 0) (a1 : Int32) (l_a1 : 0 ≤ a1.toInt) (h_a1 : a1.toInt ≤ 0) (a2 : Int32) (l_a2 : 1 ≤ a2.toInt) (h_a2 : a2.toInt ≤ 6) (sz : Nat) : Met l yX0_hoursBetween (ws_u yX0_hoursBetween cX0_hoursBetween 3 (some .int)) ({ frames := 0, cells := 0, slots := 0, locals := 0 }) (va_Pc [.ref a0, .int a1, .int a2] (cPre (dC, dI) tys ws sz)) (va_Qi (fun (r : Int32) (w : va_W) => Ty κ tys B w ∧ Sm [] [] κ ws w) (fun w t => cPost (dC, dI) tys w (va_A ws sz) t) (va_A ws sz)) 0 0 (va_A ws sz) := by
  refine Met.ofW (cc := cX0_hoursBetween) (maxL := 3) (ret := (some .int)) (by decide) rfl ?_
  intro p e s m args below meth c s₁ B0 hml hv
  obtain ⟨rfl, hsz, hP, hK, hD0, hE⟩ := hv
  have hx := B0.exec
  have hb := B0.bytes
  have hr := B0.returns
  have hts0 := atoms_spec (ws := ws_u yX0_hoursBetween cX0_hoursBetween 3 (some .int)) B0.pre
  have hts : ∀ w ∈ gT, w.before _ s = true := fun w h => hts0 w (List.mem_cons_of_mem _ h)
  have hown : s.vm.findClass RX0 = some m.cls := findClass_of_methodNamed B0.named
  have hlocks := B0.notSynchronized
  subst hsz
  have hD := hD0.self (sz := s.heap.size)
  generalize hAe : va_A ws s.heap.size = A at hD ⊢
  have hA : ∀ q : Nat, s.heap.size ≤ q → A q := fun q h => by rw [← hAe]; exact Or.inr h
  have hw : tW (dC, dI) tys κ B A s ws s.heap [] := ⟨hK, hP, hD, va_S.rf, hT⟩
  have hM : Sm [] [] κ ws ws := Sm.rf
  clear hP hK hD hD0 hts0
  have hl := lv_entry ([.ref a0, .int a1, .int a2]) (n := 3) (Nat.le_of_ble_eq_true rfl)
  rw [lg_entry_eq]
  generalize (lg_sl ([.ref a0, .int a1, .int a2]) ++ List.replicate (3 - (lg_sl ([.ref a0, .int a1, .int a2])).length) Slot.unset).toArray = ls at hl ⊢
  have hl : lv_has ls 3 [(0, .ref a0), (1, .int a1), (2, .int a2)] := hl
  refine t_start (fun QQ hQ => ?_)
  refine lv_aload_n hx hb dX0_hoursBetween_0 rfl (lv_at hl 0 rfl) ?_
  refine t_getr (k1 := 28) (ci := 0) (C := RX0) (T := TX0) (N := 16) hx hb hts iX0 hown hw k_a0 rfl rfl rfl 14 (by decide) (hts _ tw_119) (fun _ h9 => h9) dX0_hoursBetween_1 rfl (fun v1 k_v1 f_a0_X0_14 => ?_)
  refine lv_iload_n hx hb dX0_hoursBetween_4 rfl (lv_at hl 1 rfl) ?_
  refine lv_bipush (v := 7) hx hb dX0_hoursBetween_5 (by decide) ?_
  refine lv_imul hx hb dX0_hoursBetween_7 ?_
  refine lv_topi (fun v7 e_v7 => ?_)
  have e_v7 : v7.toInt = a1.toInt * 7 := ml_i e_v7 rfl li_7 (by omega) (by omega)
  refine lv_iload_n hx hb dX0_hoursBetween_8 rfl (lv_at hl 2 rfl) ?_
  refine lv_iadd hx hb dX0_hoursBetween_9 ?_
  refine lv_topi (fun v9 e_v9 => ?_)
  have e_v9 : v9.toInt = v7.toInt + a2.toInt := ad_i e_v9 rfl rfl (by omega) (by omega)
  refine t_iald hx hb hw k_v1 rfl rfl (by omega) (show v9.toInt < 49 by omega) dX0_hoursBetween_10 (fun v10 r_v10 s_v10 q_v10 => ?_)
  have l_v10 := i32_lo v10
  have h_v10 := i32_hi v10
  rw [hQ]
  refine W.widen (k := 0) (n := 0) (Nat.le_refl _) (Nat.le_refl _) ?_
  exact W.iret (v := v10) hx hb hr (fun t ht hW => ⟨⟨v10, ws, rfl, ⟨hw.2.2.2.2, hM⟩, by rw [ht]; exact hw.2.1, va_K.moved hW.alike hw.1, hw.2.2.1⟩, hw.2.2.2.1.F ht⟩) hw.2.2.2.1.2.2 dX0_hoursBetween_11
set_option maxHeartbeats 4000000 in
set_option maxRecDepth 100000 in
theorem t_X0_snowsOn (l : Launch) (dC : Nat → ClassId) (dI : Nat → Nat → Nat) (tys : List (ClassId × FieldType)) (κ : tK) (B : Nat) (ws : va_W) (hT : Ty κ tys B ws) (a0 : Nat) (k_a0 : κ a0 = some 0) (a1 : Int32) (sz : Nat) : Met l yX0_snowsOn (ws_u yX0_snowsOn cX0_snowsOn 2 (some .boolean)) ({ frames := 0, cells := 0, slots := 0, locals := 0 }) (va_Pc [.ref a0, .int a1] (cPre (dC, dI) tys ws sz)) (va_Qi (fun (r : Int32) (w : va_W) => 0 ≤ r.toInt ∧ r.toInt ≤ 1 ∧ Ty κ tys B w ∧ Sm [] [] κ ws w ∧ (r.toInt = 0 ∨ 0 ≤ a1.toInt ∧ a1.toInt ≤ 60)) (fun w t => cPost (dC, dI) tys w (va_A ws sz) t) (va_A ws sz)) 0 0 (va_A ws sz) := by
  refine Met.ofW (cc := cX0_snowsOn) (maxL := 2) (ret := (some .boolean)) (by decide) rfl ?_
  intro p e s m args below meth c s₁ B0 hml hv
  obtain ⟨rfl, hsz, hP, hK, hD0, hE⟩ := hv
  have hx := B0.exec
  have hb := B0.bytes
  have hr := B0.returns
  have hts0 := atoms_spec (ws := ws_u yX0_snowsOn cX0_snowsOn 2 (some .boolean)) B0.pre
  have hts : ∀ w ∈ gT, w.before _ s = true := fun w h => hts0 w (List.mem_cons_of_mem _ h)
  have hown : s.vm.findClass RX0 = some m.cls := findClass_of_methodNamed B0.named
  have hlocks := B0.notSynchronized
  subst hsz
  have hD := hD0.self (sz := s.heap.size)
  generalize hAe : va_A ws s.heap.size = A at hD ⊢
  have hA : ∀ q : Nat, s.heap.size ≤ q → A q := fun q h => by rw [← hAe]; exact Or.inr h
  have hw : tW (dC, dI) tys κ B A s ws s.heap [] := ⟨hK, hP, hD, va_S.rf, hT⟩
  have hM : Sm [] [] κ ws ws := Sm.rf
  clear hP hK hD hD0 hts0
  have l_a1 := i32_lo a1
  have h_a1 := i32_hi a1
  have hl := lv_entry ([.ref a0, .int a1]) (n := 2) (Nat.le_of_ble_eq_true rfl)
  rw [lg_entry_eq]
  generalize (lg_sl ([.ref a0, .int a1]) ++ List.replicate (2 - (lg_sl ([.ref a0, .int a1])).length) Slot.unset).toArray = ls at hl ⊢
  have hl : lv_has ls 2 [(0, .ref a0), (1, .int a1)] := hl
  refine t_start (fun QQ hQ => ?_)
  refine lv_iload_n hx hb dX0_snowsOn_0 rfl (lv_at hl 1 rfl) ?_
  refine lv_if_lt (tgt := 26) hx hb dX0_snowsOn_1 (by decide) (fun c_1 => ?_) (fun c_1 => ?_)
  · simp only [fa_lt, fa_le, fa_eq, li_0] at c_1
    refine lv_iconst (v := 0) hx hb dX0_snowsOn_26 (by decide) ?_
    rw [hQ]
    refine W.widen (k := 0) (n := 0) (Nat.le_refl _) (Nat.le_refl _) ?_
    exact W.zret (v := 0) hx hb hr rfl (fun t ht hW => ⟨⟨0, ws, rfl, ⟨(by decide), (by decide), hw.2.2.2.2, hM, (by have := li_0; omega)⟩, by rw [ht]; exact hw.2.1, va_K.moved hW.alike hw.1, hw.2.2.1⟩, hw.2.2.2.1.F ht⟩) hw.2.2.2.1.2.2 dX0_snowsOn_27
  · simp only [fa_lt, fa_le, fa_eq, li_0] at c_1
    refine lv_iload_n hx hb dX0_snowsOn_4 rfl (lv_at hl 1 rfl) ?_
    refine lv_aload_n hx hb dX0_snowsOn_5 rfl (lv_at hl 0 rfl) ?_
    refine t_getr (k1 := 29) (ci := 0) (C := RX0) (T := TX0) (N := 16) hx hb hts iX0 hown hw k_a0 rfl rfl rfl 15 (by decide) (hts _ tw_120) (fun _ h9 => h9) dX0_snowsOn_6 rfl (fun v6 k_v6 f_a0_X0_15 => ?_)
    refine t_alen (v := 61) hx hb hw k_v6 rfl (by decide) dX0_snowsOn_9 ?_
    refine lv_icmp_ge (tgt := 26) hx hb dX0_snowsOn_10 (by decide) (fun c_10 => ?_) (fun c_10 => ?_)
    · simp only [fa_lt, fa_le, fa_eq, li_61] at c_10
      refine lv_iconst (v := 0) hx hb dX0_snowsOn_26 (by decide) ?_
      rw [hQ]
      refine W.widen (k := 0) (n := 0) (Nat.le_refl _) (Nat.le_refl _) ?_
      exact W.zret (v := 0) hx hb hr rfl (fun t ht hW => ⟨⟨0, ws, rfl, ⟨(by decide), (by decide), hw.2.2.2.2, hM, (by have := li_0; omega)⟩, by rw [ht]; exact hw.2.1, va_K.moved hW.alike hw.1, hw.2.2.1⟩, hw.2.2.2.1.F ht⟩) hw.2.2.2.1.2.2 dX0_snowsOn_27
    · simp only [fa_lt, fa_le, fa_eq, li_61] at c_10
      refine lv_aload_n hx hb dX0_snowsOn_13 rfl (lv_at hl 0 rfl) ?_
      refine t_getk (ci := 0) (C := RX0) (T := TX0) (N := 16) hx hb hts iX0 hown hw rfl 15 (by decide) (hts _ tw_120) (fun _ h9 => h9) dX0_snowsOn_14 f_a0_X0_15 ?_
      refine lv_iload_n hx hb dX0_snowsOn_17 rfl (lv_at hl 1 rfl) ?_
      refine t_zald hx hb hw k_v6 rfl rfl (by omega) (show a1.toInt < 61 by omega) dX0_snowsOn_18 (fun v18 r_v18 s_v18 q_v18 => ?_)
      have l_v18 := i32_lo v18
      have h_v18 := i32_hi v18
      refine lv_if_eq (tgt := 26) hx hb dX0_snowsOn_19 (by decide) (fun c_19 => ?_) (fun c_19 => ?_)
      · simp only [fa_lt, fa_le, fa_eq, li_0] at c_19
        refine lv_iconst (v := 0) hx hb dX0_snowsOn_26 (by decide) ?_
        rw [hQ]
        refine W.widen (k := 0) (n := 0) (Nat.le_refl _) (Nat.le_refl _) ?_
        exact W.zret (v := 0) hx hb hr rfl (fun t ht hW => ⟨⟨0, ws, rfl, ⟨(by decide), (by decide), hw.2.2.2.2, hM, (by have := li_0; omega)⟩, by rw [ht]; exact hw.2.1, va_K.moved hW.alike hw.1, hw.2.2.1⟩, hw.2.2.2.1.F ht⟩) hw.2.2.2.1.2.2 dX0_snowsOn_27
      · simp only [fa_lt, fa_le, fa_eq, li_0] at c_19
        refine lv_iconst (v := 1) hx hb dX0_snowsOn_22 (by decide) ?_
        refine lv_goto (tgt := 27) hx hb dX0_snowsOn_23 (by decide) ?_
        rw [hQ]
        refine W.widen (k := 0) (n := 0) (Nat.le_refl _) (Nat.le_refl _) ?_
        exact W.zret (v := 1) hx hb hr rfl (fun t ht hW => ⟨⟨1, ws, rfl, ⟨(by decide), (by decide), hw.2.2.2.2, hM, (by have := li_1; omega)⟩, by rw [ht]; exact hw.2.1, va_K.moved hW.alike hw.1, hw.2.2.1⟩, hw.2.2.2.1.F ht⟩) hw.2.2.2.1.2.2 dX0_snowsOn_27
set_option maxHeartbeats 4000000 in
set_option maxRecDepth 100000 in
theorem t_X0_hoursOn (l : Launch) (dC : Nat → ClassId) (dI : Nat → Nat → Nat) (tys : List (ClassId × FieldType)) (κ : tK) (B : Nat) (ws : va_W) (hT : Ty κ tys B ws) (a0 : Nat) (k_a0 : κ a0 = some 0) (a1 : Int32) (sz : Nat) : Met l yX0_hoursOn (ws_u yX0_hoursOn cX0_hoursOn 2 (some .int)) ({ frames := 1, cells := 0, slots := 0, locals := 21 }) (va_Pc [.ref a0, .int a1] (cPre (dC, dI) tys ws sz)) (va_Qi (fun (r : Int32) (w : va_W) => Ty κ tys B w ∧ Sm [] [] κ ws w) (fun w t => cPost (dC, dI) tys w (va_A ws sz) t) (va_A ws sz)) 0 0 (va_A ws sz) := by
  refine Met.ofW (cc := cX0_hoursOn) (maxL := 2) (ret := (some .int)) (by decide) rfl ?_
  intro p e s m args below meth c s₁ B0 hml hv
  obtain ⟨rfl, hsz, hP, hK, hD0, hE⟩ := hv
  have hx := B0.exec
  have hb := B0.bytes
  have hr := B0.returns
  have hts0 := atoms_spec (ws := ws_u yX0_hoursOn cX0_hoursOn 2 (some .int)) B0.pre
  have hts : ∀ w ∈ gT, w.before _ s = true := fun w h => hts0 w (List.mem_cons_of_mem _ h)
  have hown : s.vm.findClass RX0 = some m.cls := findClass_of_methodNamed B0.named
  have hlocks := B0.notSynchronized
  subst hsz
  have hD := hD0.self (sz := s.heap.size)
  generalize hAe : va_A ws s.heap.size = A at hD ⊢
  have hA : ∀ q : Nat, s.heap.size ≤ q → A q := fun q h => by rw [← hAe]; exact Or.inr h
  have hw : tW (dC, dI) tys κ B A s ws s.heap [] := ⟨hK, hP, hD, va_S.rf, hT⟩
  have hM : Sm [] [] κ ws ws := Sm.rf
  clear hP hK hD hD0 hts0
  have l_a1 := i32_lo a1
  have h_a1 := i32_hi a1
  have hl := lv_entry ([.ref a0, .int a1]) (n := 2) (Nat.le_of_ble_eq_true rfl)
  rw [lg_entry_eq]
  generalize (lg_sl ([.ref a0, .int a1]) ++ List.replicate (2 - (lg_sl ([.ref a0, .int a1])).length) Slot.unset).toArray = ls at hl ⊢
  have hl : lv_has ls 2 [(0, .ref a0), (1, .int a1)] := hl
  refine t_start (fun QQ hQ => ?_)
  refine lv_aload_n hx hb dX0_hoursOn_0 rfl (lv_at hl 0 rfl) ?_
  refine lv_iload_n hx hb dX0_hoursOn_1 rfl (lv_at hl 1 rfl) ?_
  refine t_calli (va_runV (As := [.int a1]) (rest := []) ⟨hx, hb, hml, hown, hts⟩ (t_X0_snowsOn l dC dI tys κ B ws hw.2.2.2.2 a0 k_a0 a1 s.heap.size) (cwV 1 hts (gUV tw_853 tw_818 tw_819 tw_4 tw_820) rfl rfl rfl (by decide +kernel) ⟨(Nat.le_of_ble_eq_true rfl), (Nat.le_of_ble_eq_true rfl)⟩) ⟨cPre.blind, t_recv hw (ci := 0) k_a0 rfl rfl, cPre.use hw.2.1 hw.1 hw.2.2.1 hE⟩ rfl rfl hl.1 rfl (lv_room (Nat.le_of_ble_eq_true rfl)) dX0_hoursOn_2 ⟨(Nat.le_of_ble_eq_true rfl), (Nat.le_of_ble_eq_true rfl)⟩) hw hA (fun _ _ h => h.2.2.1) (fun v2 w_1 H locs hp hw => ?_)
  obtain ⟨l_v2, h_v2, _, hm, x_v2_0⟩ := hp
  have hM := hM.trans hm (by decide) (by decide)
  refine lv_if_eq (tgt := 17) hx hb dX0_hoursOn_5 (by decide) (fun c_5 => ?_) (fun c_5 => ?_)
  · simp only [fa_lt, fa_le, fa_eq, li_0] at c_5
    refine lv_aload_n hx hb dX0_hoursOn_17 rfl (lv_at hl 0 rfl) ?_
    refine t_geti (ci := 0) (C := RX0) (T := TX0) (N := 16) hx hb hts iX0 hown hw k_a0 rfl rfl rfl 2 (by decide) (hts _ tw_74) (fun _ h9 => h9) dX0_hoursOn_18 rfl (fun v18 l_v18 h_v18 f_a0_X0_2 => ?_)
    have l_v18 : (-2147483648) ≤ v18.toInt := l_v18
    have h_v18 : v18.toInt ≤ 2147483647 := h_v18
    rw [hQ]
    refine W.widen (k := 0) (n := 0) (Nat.le_refl _) (Nat.le_refl _) ?_
    exact W.iret (v := v18) hx hb hr (fun t ht hW => ⟨⟨v18, w_1, rfl, ⟨hw.2.2.2.2, hM⟩, by rw [ht]; exact hw.2.1, va_K.moved hW.alike hw.1, hw.2.2.1⟩, hw.2.2.2.1.F ht⟩) hw.2.2.2.1.2.2 dX0_hoursOn_21
  · simp only [fa_lt, fa_le, fa_eq, li_0] at c_5
    refine lv_aload_n hx hb dX0_hoursOn_8 rfl (lv_at hl 0 rfl) ?_
    refine t_geti (ci := 0) (C := RX0) (T := TX0) (N := 16) hx hb hts iX0 hown hw k_a0 rfl rfl rfl 2 (by decide) (hts _ tw_74) (fun _ h9 => h9) dX0_hoursOn_9 rfl (fun v9 l_v9 h_v9 f_a0_X0_2 => ?_)
    have l_v9 : (-2147483648) ≤ v9.toInt := l_v9
    have h_v9 : v9.toInt ≤ 2147483647 := h_v9
    refine lv_iconst (v := 2) hx hb dX0_hoursOn_12 (by decide) ?_
    refine lv_idiv hx hb dX0_hoursOn_13 (ne_i li_2 (by decide)) ?_
    refine lv_topi (fun v13 e_v13 => ?_)
    have l_v13 := i32_lo v13
    have h_v13 := i32_hi v13
    refine lv_goto (tgt := 21) hx hb dX0_hoursOn_14 (by decide) ?_
    rw [hQ]
    refine W.widen (k := 0) (n := 0) (Nat.le_refl _) (Nat.le_refl _) ?_
    exact W.iret (v := v13) hx hb hr (fun t ht hW => ⟨⟨v13, w_1, rfl, ⟨hw.2.2.2.2, hM⟩, by rw [ht]; exact hw.2.1, va_K.moved hW.alike hw.1, hw.2.2.1⟩, hw.2.2.2.1.F ht⟩) hw.2.2.2.1.2.2 dX0_hoursOn_21
set_option maxHeartbeats 4000000 in
set_option maxRecDepth 100000 in
theorem t_X0_roundHours (l : Launch) (dC : Nat → ClassId) (dI : Nat → Nat → Nat) (tys : List (ClassId × FieldType)) (κ : tK) (B : Nat) (ws : va_W) (hT : Ty κ tys B ws) (a0 : Nat) (k_a0 : κ a0 = some 0) (a1 : Int32) (l_a1 : 0 ≤ a1.toInt) (h_a1 : a1.toInt ≤ 0) (a2 : Int32) (l_a2 : 0 ≤ a2.toInt) (h_a2 : a2.toInt ≤ 63) (sz : Nat) : Met l yX0_roundHours (ws_u yX0_roundHours cX0_roundHours 3 (some .int)) ({ frames := 7, cells := 0, slots := 0, locals := 196 }) (va_Pc [.ref a0, .int a1, .int a2] (cPre (dC, dI) tys ws sz)) (va_Qi (fun (r : Int32) (w : va_W) => Ty κ tys B w ∧ Sm [] [] κ ws w) (fun w t => cPost (dC, dI) tys w (va_A ws sz) t) (va_A ws sz)) 0 0 (va_A ws sz) := by
  refine Met.ofW (cc := cX0_roundHours) (maxL := 3) (ret := (some .int)) (by decide) rfl ?_
  intro p e s m args below meth c s₁ B0 hml hv
  obtain ⟨rfl, hsz, hP, hK, hD0, hE⟩ := hv
  have hx := B0.exec
  have hb := B0.bytes
  have hr := B0.returns
  have hts0 := atoms_spec (ws := ws_u yX0_roundHours cX0_roundHours 3 (some .int)) B0.pre
  have hts : ∀ w ∈ gT, w.before _ s = true := fun w h => hts0 w (List.mem_cons_of_mem _ h)
  have hown : s.vm.findClass RX0 = some m.cls := findClass_of_methodNamed B0.named
  have hlocks := B0.notSynchronized
  subst hsz
  have hD := hD0.self (sz := s.heap.size)
  generalize hAe : va_A ws s.heap.size = A at hD ⊢
  have hA : ∀ q : Nat, s.heap.size ≤ q → A q := fun q h => by rw [← hAe]; exact Or.inr h
  have hw : tW (dC, dI) tys κ B A s ws s.heap [] := ⟨hK, hP, hD, va_S.rf, hT⟩
  have hM : Sm [] [] κ ws ws := Sm.rf
  clear hP hK hD hD0 hts0
  have hl := lv_entry ([.ref a0, .int a1, .int a2]) (n := 3) (Nat.le_of_ble_eq_true rfl)
  rw [lg_entry_eq]
  generalize (lg_sl ([.ref a0, .int a1, .int a2]) ++ List.replicate (3 - (lg_sl ([.ref a0, .int a1, .int a2])).length) Slot.unset).toArray = ls at hl ⊢
  have hl : lv_has ls 3 [(0, .ref a0), (1, .int a1), (2, .int a2)] := hl
  refine t_start (fun QQ hQ => ?_)
  refine lv_aload_n hx hb dX0_roundHours_0 rfl (lv_at hl 0 rfl) ?_
  refine t_getr (k1 := 28) (ci := 0) (C := RX0) (T := TX0) (N := 16) hx hb hts iX0 hown hw k_a0 rfl rfl rfl 14 (by decide) (hts _ tw_119) (fun _ h9 => h9) dX0_roundHours_1 rfl (fun v1 k_v1 f_a0_X0_14 => ?_)
  refine lv_aload_n hx hb dX0_roundHours_4 rfl (lv_at hl 0 rfl) ?_
  refine t_geti (ci := 0) (C := RX0) (T := TX0) (N := 16) hx hb hts iX0 hown hw k_a0 rfl rfl rfl 5 (by decide) (hts _ tw_86) (fun _ h9 => h9) dX0_roundHours_5 rfl (fun v5 l_v5 h_v5 f_a0_X0_5 => ?_)
  have l_v5 : 0 ≤ v5.toInt := l_v5
  have h_v5 : v5.toInt ≤ 6 := h_v5
  refine lv_iload_n hx hb dX0_roundHours_8 rfl (lv_at hl 1 rfl) ?_
  refine lv_iload_n hx hb dX0_roundHours_9 rfl (lv_at hl 2 rfl) ?_
  refine t_calli (va_runS (As := [.ref v1, .int v5, .int a1, .int a2]) (rest := []) ⟨hx, hb, hml, hown, hts⟩ (t_X0_fewestHours_6 l dC dI tys κ B ws hw.2.2.2.2 v1 k_v1 v5 (by omega) (by omega) a1 (by omega) (by omega) a2 (by omega) (by omega) (c6_le _) s.heap.size) (va_cwS 4 hts (gUS tw_991 tw_992 tw_4 tw_993) rfl rfl rfl (by decide +kernel) ⟨(Nat.le_of_ble_eq_true rfl), (Nat.le_of_ble_eq_true rfl)⟩) ⟨cPre.blind, cPre.use hw.2.1 hw.1 hw.2.2.1 hE⟩ rfl rfl hl.1 rfl (lv_room (Nat.le_of_ble_eq_true rfl)) dX0_roundHours_10 ⟨(Nat.le_of_ble_eq_true rfl), (Nat.le_of_ble_eq_true rfl)⟩) hw hA (fun _ _ h => h.1) (fun v10 w_1 H locs hp hw => ?_)
  obtain ⟨_, hm⟩ := hp
  have l_v10 := i32_lo v10
  have h_v10 := i32_hi v10
  have hM := hM.trans hm (by decide) (by decide)
  have f_a0_X0_14 := hm.1 _ _ _ _ f_a0_X0_14 (by decide)
  have f_a0_X0_5 := hm.1 _ _ _ _ f_a0_X0_5 (by decide)
  rw [hQ]
  refine W.widen (k := 0) (n := 0) (Nat.le_refl _) (Nat.le_refl _) ?_
  exact W.iret (v := v10) hx hb hr (fun t ht hW => ⟨⟨v10, w_1, rfl, ⟨hw.2.2.2.2, hM⟩, by rw [ht]; exact hw.2.1, va_K.moved hW.alike hw.1, hw.2.2.1⟩, hw.2.2.2.1.F ht⟩) hw.2.2.2.1.2.2 dX0_roundHours_13
set_option maxHeartbeats 4000000 in
set_option maxRecDepth 100000 in
theorem t_X0_setSnow (l : Launch) (dC : Nat → ClassId) (dI : Nat → Nat → Nat) (tys : List (ClassId × FieldType)) (κ : tK) (B : Nat) (ws : va_W) (hT : Ty κ tys B ws) (a0 : Nat) (k_a0 : κ a0 = some 0) (a1 : Int32) (l_a1 : 0 ≤ a1.toInt) (h_a1 : a1.toInt ≤ 60) (sz : Nat) : Met l yX0_setSnow (ws_u yX0_setSnow cX0_setSnow 2 none) ({ frames := 0, cells := 0, slots := 0, locals := 0 }) (va_Pc [.ref a0, .int a1] (cPre (dC, dI) tys ws sz)) (va_Qv (fun (w : va_W) => Ty κ tys B w ∧ Sm [] [29] κ ws w) (fun w t => cPost (dC, dI) tys w (va_A ws sz) t) (va_A ws sz)) 0 0 (va_A ws sz) := by
  refine Met.ofW (cc := cX0_setSnow) (maxL := 2) (ret := none) (by decide) rfl ?_
  intro p e s m args below meth c s₁ B0 hml hv
  obtain ⟨rfl, hsz, hP, hK, hD0, hE⟩ := hv
  have hx := B0.exec
  have hb := B0.bytes
  have hr := B0.returns
  have hts0 := atoms_spec (ws := ws_u yX0_setSnow cX0_setSnow 2 none) B0.pre
  have hts : ∀ w ∈ gT, w.before _ s = true := fun w h => hts0 w (List.mem_cons_of_mem _ h)
  have hown : s.vm.findClass RX0 = some m.cls := findClass_of_methodNamed B0.named
  have hlocks := B0.notSynchronized
  subst hsz
  have hD := hD0.self (sz := s.heap.size)
  generalize hAe : va_A ws s.heap.size = A at hD ⊢
  have hA : ∀ q : Nat, s.heap.size ≤ q → A q := fun q h => by rw [← hAe]; exact Or.inr h
  have hw : tW (dC, dI) tys κ B A s ws s.heap [] := ⟨hK, hP, hD, va_S.rf, hT⟩
  have hM : Sm [] [29] κ ws ws := Sm.rf
  clear hP hK hD hD0 hts0
  have hl := lv_entry ([.ref a0, .int a1]) (n := 2) (Nat.le_of_ble_eq_true rfl)
  rw [lg_entry_eq]
  generalize (lg_sl ([.ref a0, .int a1]) ++ List.replicate (2 - (lg_sl ([.ref a0, .int a1])).length) Slot.unset).toArray = ls at hl ⊢
  have hl : lv_has ls 2 [(0, .ref a0), (1, .int a1)] := hl
  refine t_start (fun QQ hQ => ?_)
  refine lv_iload_n hx hb dX0_setSnow_0 rfl (lv_at hl 1 rfl) ?_
  refine lv_if_lt (tgt := 20) hx hb dX0_setSnow_1 (by decide) (fun c_1 => by exfalso; simp only [fa_lt, fa_le, fa_eq, li_0] at c_1; omega) (fun c_1 => ?_)
  simp only [fa_lt, fa_le, fa_eq, li_0] at c_1
  refine lv_iload_n hx hb dX0_setSnow_4 rfl (lv_at hl 1 rfl) ?_
  refine lv_aload_n hx hb dX0_setSnow_5 rfl (lv_at hl 0 rfl) ?_
  refine t_getr (k1 := 29) (ci := 0) (C := RX0) (T := TX0) (N := 16) hx hb hts iX0 hown hw k_a0 rfl rfl rfl 15 (by decide) (hts _ tw_120) (fun _ h9 => h9) dX0_setSnow_6 rfl (fun v6 k_v6 f_a0_X0_15 => ?_)
  refine t_alen (v := 61) hx hb hw k_v6 rfl (by decide) dX0_setSnow_9 ?_
  refine lv_icmp_ge (tgt := 20) hx hb dX0_setSnow_10 (by decide) (fun c_10 => by exfalso; simp only [fa_lt, fa_le, fa_eq, li_61] at c_10; omega) (fun c_10 => ?_)
  simp only [fa_lt, fa_le, fa_eq, li_61] at c_10
  refine lv_aload_n hx hb dX0_setSnow_13 rfl (lv_at hl 0 rfl) ?_
  refine t_getk (ci := 0) (C := RX0) (T := TX0) (N := 16) hx hb hts iX0 hown hw rfl 15 (by decide) (hts _ tw_120) (fun _ h9 => h9) dX0_setSnow_14 f_a0_X0_15 ?_
  refine lv_iload_n hx hb dX0_setSnow_17 rfl (lv_at hl 1 rfl) ?_
  refine lv_iconst (v := 1) hx hb dX0_setSnow_18 (by decide) ?_
  refine t_zast hx hb hw k_v6 rfl rfl (by omega) (show a1.toInt < 61 by omega) (fun _ => rfl) dX0_setSnow_19 (fun w_1 H locs hw u => ?_)
  have hM := hM.up3 u k_v6 (by decide)
  have f_a0_X0_15 := u.1 _ _ _ _ f_a0_X0_15
  rw [hQ]
  refine W.widen (k := 0) (n := 0) (Nat.le_refl _) (Nat.le_refl _) ?_
  exact W.vret hx hb hr (fun t ht hW => ⟨⟨w_1, rfl, ⟨hw.2.2.2.2, hM⟩, by rw [ht]; exact hw.2.1, va_K.moved hW.alike hw.1, hw.2.2.1⟩, hw.2.2.2.1.F ht⟩) hw.2.2.2.1.2.2 dX0_setSnow_20
set_option maxHeartbeats 4000000 in
set_option maxRecDepth 100000 in
theorem t_X0_setWay (l : Launch) (dC : Nat → ClassId) (dI : Nat → Nat → Nat) (tys : List (ClassId × FieldType)) (κ : tK) (B : Nat) (ws : va_W) (hT : Ty κ tys B ws) (a0 : Nat) (k_a0 : κ a0 = some 0) (a1 : Int32) (l_a1 : 0 ≤ a1.toInt) (h_a1 : a1.toInt ≤ 6) (a2 : Int32) (l_a2 : 0 ≤ a2.toInt) (h_a2 : a2.toInt ≤ 6) (a3 : Int32) (l_a3 : 1 ≤ a3.toInt) (h_a3 : a3.toInt ≤ 12) (sz : Nat) : Met l yX0_setWay (ws_u yX0_setWay cX0_setWay 4 none) ({ frames := 0, cells := 0, slots := 0, locals := 0 }) (va_Pc [.ref a0, .int a1, .int a2, .int a3] (cPre (dC, dI) tys ws sz)) (va_Qv (fun (w : va_W) => Ty κ tys B w ∧ Sm [] [28] κ ws w) (fun w t => cPost (dC, dI) tys w (va_A ws sz) t) (va_A ws sz)) 0 0 (va_A ws sz) := by
  refine Met.ofW (cc := cX0_setWay) (maxL := 4) (ret := none) (by decide) rfl ?_
  intro p e s m args below meth c s₁ B0 hml hv
  obtain ⟨rfl, hsz, hP, hK, hD0, hE⟩ := hv
  have hx := B0.exec
  have hb := B0.bytes
  have hr := B0.returns
  have hts0 := atoms_spec (ws := ws_u yX0_setWay cX0_setWay 4 none) B0.pre
  have hts : ∀ w ∈ gT, w.before _ s = true := fun w h => hts0 w (List.mem_cons_of_mem _ h)
  have hown : s.vm.findClass RX0 = some m.cls := findClass_of_methodNamed B0.named
  have hlocks := B0.notSynchronized
  subst hsz
  have hD := hD0.self (sz := s.heap.size)
  generalize hAe : va_A ws s.heap.size = A at hD ⊢
  have hA : ∀ q : Nat, s.heap.size ≤ q → A q := fun q h => by rw [← hAe]; exact Or.inr h
  have hw : tW (dC, dI) tys κ B A s ws s.heap [] := ⟨hK, hP, hD, va_S.rf, hT⟩
  have hM : Sm [] [28] κ ws ws := Sm.rf
  clear hP hK hD hD0 hts0
  have hl := lv_entry ([.ref a0, .int a1, .int a2, .int a3]) (n := 4) (Nat.le_of_ble_eq_true rfl)
  rw [lg_entry_eq]
  generalize (lg_sl ([.ref a0, .int a1, .int a2, .int a3]) ++ List.replicate (4 - (lg_sl ([.ref a0, .int a1, .int a2, .int a3])).length) Slot.unset).toArray = ls at hl ⊢
  have hl : lv_has ls 4 [(0, .ref a0), (1, .int a1), (2, .int a2), (3, .int a3)] := hl
  refine t_start (fun QQ hQ => ?_)
  refine lv_aload_n hx hb dX0_setWay_0 rfl (lv_at hl 0 rfl) ?_
  refine t_getr (k1 := 28) (ci := 0) (C := RX0) (T := TX0) (N := 16) hx hb hts iX0 hown hw k_a0 rfl rfl rfl 14 (by decide) (hts _ tw_119) (fun _ h9 => h9) dX0_setWay_1 rfl (fun v1 k_v1 f_a0_X0_14 => ?_)
  refine lv_iload_n hx hb dX0_setWay_4 rfl (lv_at hl 1 rfl) ?_
  refine lv_bipush (v := 7) hx hb dX0_setWay_5 (by decide) ?_
  refine lv_imul hx hb dX0_setWay_7 ?_
  refine lv_topi (fun v7 e_v7 => ?_)
  have e_v7 : v7.toInt = a1.toInt * 7 := ml_i e_v7 rfl li_7 (by omega) (by omega)
  refine lv_iload_n hx hb dX0_setWay_8 rfl (lv_at hl 2 rfl) ?_
  refine lv_iadd hx hb dX0_setWay_9 ?_
  refine lv_topi (fun v9 e_v9 => ?_)
  have e_v9 : v9.toInt = v7.toInt + a2.toInt := ad_i e_v9 rfl rfl (by omega) (by omega)
  refine lv_iload_n hx hb dX0_setWay_10 rfl (lv_at hl 3 rfl) ?_
  refine t_iast hx hb hw k_v1 rfl rfl (by omega) (show v9.toInt < 49 by omega) (i32_lo _) (i32_hi _) dX0_setWay_11 (fun w_1 H locs hw u => ?_)
  have hM := hM.up3 u k_v1 (by decide)
  have f_a0_X0_14 := u.1 _ _ _ _ f_a0_X0_14
  refine lv_aload_n hx hb dX0_setWay_12 rfl (lv_at hl 0 rfl) ?_
  refine t_getk (ci := 0) (C := RX0) (T := TX0) (N := 16) hx hb hts iX0 hown hw rfl 14 (by decide) (hts _ tw_119) (fun _ h9 => h9) dX0_setWay_13 f_a0_X0_14 ?_
  refine lv_iload_n hx hb dX0_setWay_16 rfl (lv_at hl 2 rfl) ?_
  refine lv_bipush (v := 7) hx hb dX0_setWay_17 (by decide) ?_
  refine lv_imul hx hb dX0_setWay_19 ?_
  refine lv_topi (fun v19 e_v19 => ?_)
  have e_v19 : v19.toInt = a2.toInt * 7 := ml_i e_v19 rfl li_7 (by omega) (by omega)
  refine lv_iload_n hx hb dX0_setWay_20 rfl (lv_at hl 1 rfl) ?_
  refine lv_iadd hx hb dX0_setWay_21 ?_
  refine lv_topi (fun v21 e_v21 => ?_)
  have e_v21 : v21.toInt = v19.toInt + a1.toInt := ad_i e_v21 rfl rfl (by omega) (by omega)
  refine lv_iload_n hx hb dX0_setWay_22 rfl (lv_at hl 3 rfl) ?_
  refine t_iast hx hb hw k_v1 rfl rfl (by omega) (show v21.toInt < 49 by omega) (i32_lo _) (i32_hi _) dX0_setWay_23 (fun w_2 H locs hw u => ?_)
  have hM := hM.up3 u k_v1 (by decide)
  have f_a0_X0_14 := u.1 _ _ _ _ f_a0_X0_14
  rw [hQ]
  refine W.widen (k := 0) (n := 0) (Nat.le_refl _) (Nat.le_refl _) ?_
  exact W.vret hx hb hr (fun t ht hW => ⟨⟨w_2, rfl, ⟨hw.2.2.2.2, hM⟩, by rw [ht]; exact hw.2.1, va_K.moved hW.alike hw.1, hw.2.2.1⟩, hw.2.2.2.1.F ht⟩) hw.2.2.2.1.2.2 dX0_setWay_24
set_option maxHeartbeats 4000000 in
set_option maxRecDepth 100000 in
theorem t_X0_shortenWays (l : Launch) (dC : Nat → ClassId) (dI : Nat → Nat → Nat) (tys : List (ClassId × FieldType)) (κ : tK) (B : Nat) (ws : va_W) (hT : Ty κ tys B ws) (a0 : Nat) (k_a0 : κ a0 = some 0) (sz : Nat) : Met l yX0_shortenWays (ws_u yX0_shortenWays cX0_shortenWays 5 none) ({ frames := 1, cells := 0, slots := 0, locals := 40 }) (va_Pc [.ref a0] (cPre (dC, dI) tys ws sz)) (va_Qv (fun (w : va_W) => Ty κ tys B w ∧ Sm [] [28] κ ws w) (fun w t => cPost (dC, dI) tys w (va_A ws sz) t) (va_A ws sz)) 0 0 (va_A ws sz) := by
  refine Met.ofW (cc := cX0_shortenWays) (maxL := 5) (ret := none) (by decide) rfl ?_
  intro p e s m args below meth c s₁ B0 hml hv
  obtain ⟨rfl, hsz, hP, hK, hD0, hE⟩ := hv
  have hx := B0.exec
  have hb := B0.bytes
  have hr := B0.returns
  have hts0 := atoms_spec (ws := ws_u yX0_shortenWays cX0_shortenWays 5 none) B0.pre
  have hts : ∀ w ∈ gT, w.before _ s = true := fun w h => hts0 w (List.mem_cons_of_mem _ h)
  have hown : s.vm.findClass RX0 = some m.cls := findClass_of_methodNamed B0.named
  have hlocks := B0.notSynchronized
  subst hsz
  have hD := hD0.self (sz := s.heap.size)
  generalize hAe : va_A ws s.heap.size = A at hD ⊢
  have hA : ∀ q : Nat, s.heap.size ≤ q → A q := fun q h => by rw [← hAe]; exact Or.inr h
  have hw : tW (dC, dI) tys κ B A s ws s.heap [] := ⟨hK, hP, hD, va_S.rf, hT⟩
  have hM : Sm [] [28] κ ws ws := Sm.rf
  clear hP hK hD hD0 hts0
  have hl := lv_entry ([.ref a0]) (n := 5) (Nat.le_of_ble_eq_true rfl)
  rw [lg_entry_eq]
  generalize (lg_sl ([.ref a0]) ++ List.replicate (5 - (lg_sl ([.ref a0])).length) Slot.unset).toArray = ls at hl ⊢
  have hl : lv_has ls 5 [(0, .ref a0)] := hl
  refine t_start (fun QQ hQ => ?_)
  refine lv_iconst (v := 0) hx hb dX0_shortenWays_0 (by decide) ?_
  refine lv_istore_n (lv' := [(1, .int 0), (0, .ref a0)]) hx hb dX0_shortenWays_1 rfl hl (by decide) rfl (fun ls hl => ?_)
  have J2 : ∀ (n : Nat) (H : Heap) (locs : List Loc) (ls : Array Slot), (∃ (w2 : va_W) (p2_l1 : Int32), tW (dC, dI) tys κ B A s w2 H locs ∧ Sm [] [28] κ ws w2 ∧ 0 ≤ p2_l1.toInt ∧ p2_l1.toInt ≤ 7 ∧ lv_has ls 5 [(0, .ref a0), (1, .int p2_l1)] ∧ (7 - p2_l1.toInt).toNat = n) → W p l e (headSpec (ws_u yX0_shortenWays cX0_shortenWays 5 none) ({ frames := 1, cells := 0, slots := 0, locals := 40 })).room s m ([.ref a0] : List Value).toArray below meth c H locs 0 0 QQ (F0 m 2 ls []) := by
    refine loopT _ ?_
    intro n_2 H locs ls hI ih_2
    obtain ⟨w2, p2_l1, hw, hM, l_p2_l1, h_p2_l1, hl, hn_2⟩ := hI
    refine lv_iload_n hx hb dX0_shortenWays_2 rfl (lv_at hl 1 rfl) ?_
    refine lv_bipush (v := 7) hx hb dX0_shortenWays_3 (by decide) ?_
    refine lv_icmp_ge (tgt := 26) hx hb dX0_shortenWays_5 (by decide) (fun c_5 => ?_) (fun c_5 => ?_)
    · simp only [fa_lt, fa_le, fa_eq, li_7] at c_5
      refine lv_iconst (v := 0) hx hb dX0_shortenWays_26 (by decide) ?_
      refine lv_istore_n (lv' := [(1, .int 0), (0, .ref a0)]) hx hb dX0_shortenWays_27 rfl hl (by decide) rfl (fun ls hl => ?_)
      have J28 : ∀ (n : Nat) (H : Heap) (locs : List Loc) (ls : Array Slot), (∃ (w28 : va_W) (p28_l1 : Int32), tW (dC, dI) tys κ B A s w28 H locs ∧ Sm [] [28] κ ws w28 ∧ 0 ≤ p28_l1.toInt ∧ p28_l1.toInt ≤ 7 ∧ lv_has ls 5 [(0, .ref a0), (1, .int p28_l1)] ∧ (7 - p28_l1.toInt).toNat = n) → W p l e (headSpec (ws_u yX0_shortenWays cX0_shortenWays 5 none) ({ frames := 1, cells := 0, slots := 0, locals := 40 })).room s m ([.ref a0] : List Value).toArray below meth c H locs 0 0 QQ (F0 m 28 ls []) := by
        refine loopT _ ?_
        intro n_28 H locs ls hI ih_28
        obtain ⟨w28, p28_l1, hw, hM, l_p28_l1, h_p28_l1, hl, hn_28⟩ := hI
        refine lv_iload_n hx hb dX0_shortenWays_28 rfl (lv_at hl 1 rfl) ?_
        refine lv_bipush (v := 7) hx hb dX0_shortenWays_29 (by decide) ?_
        refine lv_icmp_ge (tgt := 120) hx hb dX0_shortenWays_31 (by decide) (fun c_31 => ?_) (fun c_31 => ?_)
        · simp only [fa_lt, fa_le, fa_eq, li_7] at c_31
          rw [hQ]
          refine W.widen (k := 0) (n := 0) (Nat.le_refl _) (Nat.le_refl _) ?_
          exact W.vret hx hb hr (fun t ht hW => ⟨⟨w28, rfl, ⟨hw.2.2.2.2, hM⟩, by rw [ht]; exact hw.2.1, va_K.moved hW.alike hw.1, hw.2.2.1⟩, hw.2.2.2.1.F ht⟩) hw.2.2.2.1.2.2 dX0_shortenWays_120
        · simp only [fa_lt, fa_le, fa_eq, li_7] at c_31
          refine lv_iconst (v := 0) hx hb dX0_shortenWays_34 (by decide) ?_
          refine lv_istore_n (lv' := [(2, .int 0), (0, .ref a0), (1, .int p28_l1)]) hx hb dX0_shortenWays_35 rfl hl (by decide) rfl (fun ls hl => ?_)
          have J36 : ∀ (n : Nat) (H : Heap) (locs : List Loc) (ls : Array Slot), (∃ (w36 : va_W) (p36_l2 : Int32), tW (dC, dI) tys κ B A s w36 H locs ∧ Sm [] [28] κ ws w36 ∧ 0 ≤ p36_l2.toInt ∧ p36_l2.toInt ≤ 7 ∧ lv_has ls 5 [(0, .ref a0), (1, .int p28_l1), (2, .int p36_l2)] ∧ (7 - p36_l2.toInt).toNat = n) → W p l e (headSpec (ws_u yX0_shortenWays cX0_shortenWays 5 none) ({ frames := 1, cells := 0, slots := 0, locals := 40 })).room s m ([.ref a0] : List Value).toArray below meth c H locs 0 0 QQ (F0 m 36 ls []) := by
            refine loopT _ ?_
            intro n_36 H locs ls hI ih_36
            obtain ⟨w36, p36_l2, hw, hM, l_p36_l2, h_p36_l2, hl, hn_36⟩ := hI
            refine lv_iload_n hx hb dX0_shortenWays_36 rfl (lv_at hl 2 rfl) ?_
            refine lv_bipush (v := 7) hx hb dX0_shortenWays_37 (by decide) ?_
            refine lv_icmp_ge (tgt := 114) hx hb dX0_shortenWays_39 (by decide) (fun c_39 => ?_) (fun c_39 => ?_)
            · simp only [fa_lt, fa_le, fa_eq, li_7] at c_39
              obtain ⟨v114, e_v114⟩ : ∃ y : Int32, y = p28_l1 + 1 := ⟨_, rfl⟩
              refine lv_iinc (v := v114) (lv' := [(1, .int v114), (0, .ref a0), (2, .int p36_l2)]) hx hb dX0_shortenWays_114 hl (k := 1) rfl e_v114.symm (by decide) rfl (fun ls hl => ?_)
              have e_v114 : v114.toInt = p28_l1.toInt + 1 := ad_i e_v114 rfl li_1 (by omega) (by omega)
              refine lv_goto (tgt := 28) hx hb dX0_shortenWays_117 (by decide) ?_
              exact ih_28 _ _ _ _ (by omega) ⟨w36, v114, hw, hM, (by omega), (by omega), (lv_sub hl [1, 0] rfl), rfl⟩
            · simp only [fa_lt, fa_le, fa_eq, li_7] at c_39
              refine lv_iconst (v := 0) hx hb dX0_shortenWays_42 (by decide) ?_
              refine lv_istore_n (lv' := [(3, .int 0), (0, .ref a0), (1, .int p28_l1), (2, .int p36_l2)]) hx hb dX0_shortenWays_43 rfl hl (by decide) rfl (fun ls hl => ?_)
              have J44 : ∀ (n : Nat) (H : Heap) (locs : List Loc) (ls : Array Slot), (∃ (w44 : va_W) (p44_l3 : Int32), tW (dC, dI) tys κ B A s w44 H locs ∧ Sm [] [28] κ ws w44 ∧ 0 ≤ p44_l3.toInt ∧ p44_l3.toInt ≤ 7 ∧ lv_has ls 5 [(0, .ref a0), (1, .int p28_l1), (2, .int p36_l2), (3, .int p44_l3)] ∧ (7 - p44_l3.toInt).toNat = n) → W p l e (headSpec (ws_u yX0_shortenWays cX0_shortenWays 5 none) ({ frames := 1, cells := 0, slots := 0, locals := 40 })).room s m ([.ref a0] : List Value).toArray below meth c H locs 0 0 QQ (F0 m 44 ls []) := by
                refine loopT _ ?_
                intro n_44 H locs ls hI ih_44
                obtain ⟨w44, p44_l3, hw, hM, l_p44_l3, h_p44_l3, hl, hn_44⟩ := hI
                refine lv_iload_n hx hb dX0_shortenWays_44 rfl (lv_at hl 3 rfl) ?_
                refine lv_bipush (v := 7) hx hb dX0_shortenWays_45 (by decide) ?_
                refine lv_icmp_ge (tgt := 108) hx hb dX0_shortenWays_47 (by decide) (fun c_47 => ?_) (fun c_47 => ?_)
                · simp only [fa_lt, fa_le, fa_eq, li_7] at c_47
                  obtain ⟨v108, e_v108⟩ : ∃ y : Int32, y = p36_l2 + 1 := ⟨_, rfl⟩
                  refine lv_iinc (v := v108) (lv' := [(2, .int v108), (0, .ref a0), (1, .int p28_l1), (3, .int p44_l3)]) hx hb dX0_shortenWays_108 hl (k := 2) rfl e_v108.symm (by decide) rfl (fun ls hl => ?_)
                  have e_v108 : v108.toInt = p36_l2.toInt + 1 := ad_i e_v108 rfl li_1 (by omega) (by omega)
                  refine lv_goto (tgt := 36) hx hb dX0_shortenWays_111 (by decide) ?_
                  exact ih_36 _ _ _ _ (by omega) ⟨w44, v108, hw, hM, (by omega), (by omega), (lv_sub hl [1, 2, 0] rfl), rfl⟩
                · simp only [fa_lt, fa_le, fa_eq, li_7] at c_47
                  refine lv_aload_n hx hb dX0_shortenWays_50 rfl (lv_at hl 0 rfl) ?_
                  refine t_getr (k1 := 28) (ci := 0) (C := RX0) (T := TX0) (N := 16) hx hb hts iX0 hown hw k_a0 rfl rfl rfl 14 (by decide) (hts _ tw_119) (fun _ h9 => h9) dX0_shortenWays_51 rfl (fun v51 k_v51 f_a0_X0_14 => ?_)
                  refine lv_iload_n hx hb dX0_shortenWays_54 rfl (lv_at hl 2 rfl) ?_
                  refine lv_bipush (v := 7) hx hb dX0_shortenWays_55 (by decide) ?_
                  refine lv_imul hx hb dX0_shortenWays_57 ?_
                  refine lv_topi (fun v57 e_v57 => ?_)
                  have e_v57 : v57.toInt = p36_l2.toInt * 7 := ml_i e_v57 rfl li_7 (by omega) (by omega)
                  refine lv_iload_n hx hb dX0_shortenWays_58 rfl (lv_at hl 1 rfl) ?_
                  refine lv_iadd hx hb dX0_shortenWays_59 ?_
                  refine lv_topi (fun v59 e_v59 => ?_)
                  have e_v59 : v59.toInt = v57.toInt + p28_l1.toInt := ad_i e_v59 rfl rfl (by omega) (by omega)
                  refine t_iald hx hb hw k_v51 rfl rfl (by omega) (show v59.toInt < 49 by omega) dX0_shortenWays_60 (fun v60 r_v60 s_v60 q_v60 => ?_)
                  have l_v60 := i32_lo v60
                  have h_v60 := i32_hi v60
                  refine lv_aload_n hx hb dX0_shortenWays_61 rfl (lv_at hl 0 rfl) ?_
                  refine t_getk (ci := 0) (C := RX0) (T := TX0) (N := 16) hx hb hts iX0 hown hw rfl 14 (by decide) (hts _ tw_119) (fun _ h9 => h9) dX0_shortenWays_62 f_a0_X0_14 ?_
                  refine lv_iload_n hx hb dX0_shortenWays_65 rfl (lv_at hl 1 rfl) ?_
                  refine lv_bipush (v := 7) hx hb dX0_shortenWays_66 (by decide) ?_
                  refine lv_imul hx hb dX0_shortenWays_68 ?_
                  refine lv_topi (fun v68 e_v68 => ?_)
                  have e_v68 : v68.toInt = p28_l1.toInt * 7 := ml_i e_v68 rfl li_7 (by omega) (by omega)
                  refine lv_iload_n hx hb dX0_shortenWays_69 rfl (lv_at hl 3 rfl) ?_
                  refine lv_iadd hx hb dX0_shortenWays_70 ?_
                  refine lv_topi (fun v70 e_v70 => ?_)
                  have e_v70 : v70.toInt = v68.toInt + p44_l3.toInt := ad_i e_v70 rfl rfl (by omega) (by omega)
                  refine t_iald hx hb hw k_v51 rfl rfl (by omega) (show v70.toInt < 49 by omega) dX0_shortenWays_71 (fun v71 r_v71 s_v71 q_v71 => ?_)
                  have l_v71 := i32_lo v71
                  have h_v71 := i32_hi v71
                  refine lv_iadd hx hb dX0_shortenWays_72 ?_
                  refine lv_topi (fun v72 e_v72 => ?_)
                  have l_v72 := i32_lo v72
                  have h_v72 := i32_hi v72
                  refine lv_istore (lv' := [(4, .int v72), (0, .ref a0), (1, .int p28_l1), (2, .int p36_l2), (3, .int p44_l3)]) hx hb dX0_shortenWays_73 hl (by decide) rfl (fun ls hl => ?_)
                  refine lv_aload_n hx hb dX0_shortenWays_75 rfl (lv_at hl 1 rfl) ?_
                  refine t_getk (ci := 0) (C := RX0) (T := TX0) (N := 16) hx hb hts iX0 hown hw rfl 14 (by decide) (hts _ tw_119) (fun _ h9 => h9) dX0_shortenWays_76 f_a0_X0_14 ?_
                  refine lv_iload_n hx hb dX0_shortenWays_79 rfl (lv_at hl 3 rfl) ?_
                  refine lv_bipush (v := 7) hx hb dX0_shortenWays_80 (by decide) ?_
                  refine lv_imul hx hb dX0_shortenWays_82 ?_
                  refine lv_topi (fun v82 e_v82 => ?_)
                  have e_v82 : v82.toInt = p36_l2.toInt * 7 := ml_i e_v82 rfl li_7 (by omega) (by omega)
                  refine lv_iload_n hx hb dX0_shortenWays_83 rfl (lv_at hl 4 rfl) ?_
                  refine lv_iadd hx hb dX0_shortenWays_84 ?_
                  refine lv_topi (fun v84 e_v84 => ?_)
                  have e_v84 : v84.toInt = v82.toInt + p44_l3.toInt := ad_i e_v84 rfl rfl (by omega) (by omega)
                  refine lv_aload_n hx hb dX0_shortenWays_85 rfl (lv_at hl 1 rfl) ?_
                  refine t_getk (ci := 0) (C := RX0) (T := TX0) (N := 16) hx hb hts iX0 hown hw rfl 14 (by decide) (hts _ tw_119) (fun _ h9 => h9) dX0_shortenWays_86 f_a0_X0_14 ?_
                  refine lv_iload_n hx hb dX0_shortenWays_89 rfl (lv_at hl 3 rfl) ?_
                  refine lv_bipush (v := 7) hx hb dX0_shortenWays_90 (by decide) ?_
                  refine lv_imul hx hb dX0_shortenWays_92 ?_
                  refine lv_topi (fun v92 e_v92 => ?_)
                  have e_v92 : v92.toInt = p36_l2.toInt * 7 := ml_i e_v92 rfl li_7 (by omega) (by omega)
                  refine lv_iload_n hx hb dX0_shortenWays_93 rfl (lv_at hl 4 rfl) ?_
                  refine lv_iadd hx hb dX0_shortenWays_94 ?_
                  refine lv_topi (fun v94 e_v94 => ?_)
                  have e_v94 : v94.toInt = v92.toInt + p44_l3.toInt := ad_i e_v94 rfl rfl (by omega) (by omega)
                  refine t_iald hx hb hw k_v51 rfl rfl (by omega) (show v94.toInt < 49 by omega) dX0_shortenWays_95 (fun v95 r_v95 s_v95 q_v95 => ?_)
                  have l_v95 := i32_lo v95
                  have h_v95 := i32_hi v95
                  refine lv_iload hx hb dX0_shortenWays_96 (lv_at hl 0 rfl) ?_
                  refine va_mmin hx hb (hml.trans hl.1.symm) hown (hts _ tw_614) (hts _ tw_615) (hts _ tw_19) (hts _ tw_616) (Nat.le_of_ble_eq_true rfl) (Nat.le_of_ble_eq_true rfl) (Nat.le_of_ble_eq_true rfl) (Nat.le_of_ble_eq_true rfl) dX0_shortenWays_98 ?_
                  refine lv_topi (fun v98 e_v98 => ?_)
                  have g_v98 := mn_i e_v98 rfl rfl
                  refine t_iast hx hb hw k_v51 rfl rfl (by omega) (show v84.toInt < 49 by omega) (i32_lo _) (i32_hi _) dX0_shortenWays_101 (fun w_1 H locs hw u => ?_)
                  have hM := hM.up3 u k_v51 (by decide)
                  have f_a0_X0_14 := u.1 _ _ _ _ f_a0_X0_14
                  obtain ⟨v102, e_v102⟩ : ∃ y : Int32, y = p44_l3 + 1 := ⟨_, rfl⟩
                  refine lv_iinc (v := v102) (lv' := [(3, .int v102), (4, .int v72), (0, .ref a0), (1, .int p28_l1), (2, .int p36_l2)]) hx hb dX0_shortenWays_102 hl (k := 4) rfl e_v102.symm (by decide) rfl (fun ls hl => ?_)
                  have e_v102 : v102.toInt = p44_l3.toInt + 1 := ad_i e_v102 rfl li_1 (by omega) (by omega)
                  refine lv_goto (tgt := 44) hx hb dX0_shortenWays_105 (by decide) ?_
                  exact ih_44 _ _ _ _ (by omega) ⟨w_1, v102, hw, hM, (by omega), (by omega), (lv_sub hl [2, 3, 4, 0] rfl), rfl⟩
              exact J44 _ _ _ _ ⟨w36, 0, hw, hM, (by decide), (by decide), (lv_sub hl [1, 2, 3, 0] rfl), rfl⟩
          exact J36 _ _ _ _ ⟨w28, 0, hw, hM, (by decide), (by decide), (lv_sub hl [1, 2, 0] rfl), rfl⟩
      exact J28 _ _ _ _ ⟨w2, 0, hw, hM, (by decide), (by decide), (lv_sub hl [1, 0] rfl), rfl⟩
    · simp only [fa_lt, fa_le, fa_eq, li_7] at c_5
      refine lv_aload_n hx hb dX0_shortenWays_8 rfl (lv_at hl 0 rfl) ?_
      refine t_getr (k1 := 28) (ci := 0) (C := RX0) (T := TX0) (N := 16) hx hb hts iX0 hown hw k_a0 rfl rfl rfl 14 (by decide) (hts _ tw_119) (fun _ h9 => h9) dX0_shortenWays_9 rfl (fun v9 k_v9 f_a0_X0_14 => ?_)
      refine lv_iload_n hx hb dX0_shortenWays_12 rfl (lv_at hl 1 rfl) ?_
      refine lv_bipush (v := 7) hx hb dX0_shortenWays_13 (by decide) ?_
      refine lv_imul hx hb dX0_shortenWays_15 ?_
      refine lv_topi (fun v15 e_v15 => ?_)
      have e_v15 : v15.toInt = p2_l1.toInt * 7 := ml_i e_v15 rfl li_7 (by omega) (by omega)
      refine lv_iload_n hx hb dX0_shortenWays_16 rfl (lv_at hl 1 rfl) ?_
      refine lv_iadd hx hb dX0_shortenWays_17 ?_
      refine lv_topi (fun v17 e_v17 => ?_)
      have e_v17 : v17.toInt = v15.toInt + p2_l1.toInt := ad_i e_v17 rfl rfl (by omega) (by omega)
      refine lv_iconst (v := 0) hx hb dX0_shortenWays_18 (by decide) ?_
      refine t_iast hx hb hw k_v9 rfl rfl (by omega) (show v17.toInt < 49 by omega) (i32_lo _) (i32_hi _) dX0_shortenWays_19 (fun w_2 H locs hw u => ?_)
      have hM := hM.up3 u k_v9 (by decide)
      have f_a0_X0_14 := u.1 _ _ _ _ f_a0_X0_14
      obtain ⟨v20, e_v20⟩ : ∃ y : Int32, y = p2_l1 + 1 := ⟨_, rfl⟩
      refine lv_iinc (v := v20) (lv' := [(1, .int v20), (0, .ref a0)]) hx hb dX0_shortenWays_20 hl (k := 1) rfl e_v20.symm (by decide) rfl (fun ls hl => ?_)
      have e_v20 : v20.toInt = p2_l1.toInt + 1 := ad_i e_v20 rfl li_1 (by omega) (by omega)
      refine lv_goto (tgt := 2) hx hb dX0_shortenWays_23 (by decide) ?_
      exact ih_2 _ _ _ _ (by omega) ⟨w_2, v20, hw, hM, (by omega), (by omega), (lv_sub hl [1, 0] rfl), rfl⟩
  exact J2 _ _ _ _ ⟨ws, 0, hw, hM, (by decide), (by decide), (lv_sub hl [1, 0] rfl), rfl⟩
