theorem tw_1359 : (Jvm.Cond.constant "BoyBishopModel" (167 : Nat) (99999 : Int32)) ∈ gT := gT_in (List.mem_append_right _ (List.mem_append_right _ (List.mem_append_right _ (List.mem_append_right _ (List.mem_append_right _ (List.mem_append_right _ (List.mem_append_left _ (List.mem_of_getElem? (i := 159) rfl)))))))) rfl
theorem tw_1560 : (Jvm.Cond.methodLink "BoyBishopModel" (370 : Nat) ({ cls := "BoyBishopModel", name := "atMost", desc := "(II)I" } : Jvm.MethodName)) ∈ gT := gT_in (List.mem_append_right _ (List.mem_append_right _ (List.mem_append_right _ (List.mem_append_right _ (List.mem_append_right _ (List.mem_append_right _ (List.mem_append_right _ (List.mem_append_left _ (List.mem_of_getElem? (i := 120) rfl))))))))) rfl
theorem tw_1561 : (Jvm.Cond.static ({ cls := "BoyBishopModel", name := "atMost", desc := "(II)I" } : Jvm.MethodName)) ∈ gT := gT_in (List.mem_append_right _ (List.mem_append_right _ (List.mem_append_right _ (List.mem_append_right _ (List.mem_append_right _ (List.mem_append_right _ (List.mem_append_right _ (List.mem_append_left _ (List.mem_of_getElem? (i := 121) rfl))))))))) rfl
theorem tw_1562 : (Jvm.Cond.code ({ cls := "BoyBishopModel", name := "atMost", desc := "(II)I" } : Jvm.MethodName) prog_14_method_5_code (2 : Nat) (Option.some Jvm.ClassFile.FieldType.int)) ∈ gT := gT_in (List.mem_append_right _ (List.mem_append_right _ (List.mem_append_right _ (List.mem_append_right _ (List.mem_append_right _ (List.mem_append_right _ (List.mem_append_right _ (List.mem_append_left _ (List.mem_of_getElem? (i := 122) rfl))))))))) rfl
theorem dX12_visit_0 : decode cX12_visit 0 = .ok (.aload_n 0, 1) := by decide +kernel
theorem dX12_visit_1 : decode cX12_visit 1 = .ok (.iload_n 1, 1) := by decide +kernel
theorem dX12_visit_2 : decode cX12_visit 2 = .ok (.invokevirtual 325, 3) := by decide +kernel
theorem dX12_visit_5 : decode cX12_visit 5 = .ok (.ifCond .eq 24, 3) := by decide +kernel
theorem dX12_visit_8 : decode cX12_visit 8 = .ok (.aload_n 0, 1) := by decide +kernel
theorem dX12_visit_9 : decode cX12_visit 9 = .ok (.getfield 39, 3) := by decide +kernel
theorem dX12_visit_12 : decode cX12_visit 12 = .ok (.bipush 11, 2) := by decide +kernel
theorem dX12_visit_14 : decode cX12_visit 14 = .ok (.iaload, 1) := by decide +kernel
theorem dX12_visit_15 : decode cX12_visit 15 = .ok (.ifCond .lt 14, 3) := by decide +kernel
theorem dX12_visit_18 : decode cX12_visit 18 = .ok (.aload_n 0, 1) := by decide +kernel
theorem dX12_visit_19 : decode cX12_visit 19 = .ok (.getfield 39, 3) := by decide +kernel
theorem dX12_visit_22 : decode cX12_visit 22 = .ok (.bipush 15, 2) := by decide +kernel
theorem dX12_visit_24 : decode cX12_visit 24 = .ok (.iaload, 1) := by decide +kernel
theorem dX12_visit_25 : decode cX12_visit 25 = .ok (.iconst 1, 1) := by decide +kernel
theorem dX12_visit_26 : decode cX12_visit 26 = .ok (.if_icmp .ne 5, 3) := by decide +kernel
theorem dX12_visit_29 : decode cX12_visit 29 = .ok (.iconst (-1), 1) := by decide +kernel
theorem dX12_visit_30 : decode cX12_visit 30 = .ok (.ireturn, 1) := by decide +kernel
theorem dX12_visit_31 : decode cX12_visit 31 = .ok (.aload_n 0, 1) := by decide +kernel
theorem dX12_visit_32 : decode cX12_visit 32 = .ok (.iconst 0, 1) := by decide +kernel
theorem dX12_visit_33 : decode cX12_visit 33 = .ok (.iload_n 1, 1) := by decide +kernel
theorem dX12_visit_34 : decode cX12_visit 34 = .ok (.iconst 1, 1) := by decide +kernel
theorem dX12_visit_35 : decode cX12_visit 35 = .ok (.iadd, 1) := by decide +kernel
theorem dX12_visit_36 : decode cX12_visit 36 = .ok (.invokevirtual 317, 3) := by decide +kernel
theorem dX12_visit_39 : decode cX12_visit 39 = .ok (.aload_n 0, 1) := by decide +kernel
theorem dX12_visit_40 : decode cX12_visit 40 = .ok (.invokevirtual 367, 3) := by decide +kernel
theorem dX12_visit_43 : decode cX12_visit 43 = .ok (.ifCond .eq 7, 3) := by decide +kernel
theorem dX12_visit_46 : decode cX12_visit 46 = .ok (.iconst 4, 1) := by decide +kernel
theorem dX12_visit_47 : decode cX12_visit 47 = .ok (.goto 4, 3) := by decide +kernel
theorem dX12_visit_50 : decode cX12_visit 50 = .ok (.iconst 2, 1) := by decide +kernel
theorem dX12_visit_51 : decode cX12_visit 51 = .ok (.imul, 1) := by decide +kernel
theorem dX12_visit_52 : decode cX12_visit 52 = .ok (.aload_n 0, 1) := by decide +kernel
theorem dX12_visit_53 : decode cX12_visit 53 = .ok (.getfield 39, 3) := by decide +kernel
theorem dX12_visit_56 : decode cX12_visit 56 = .ok (.iconst 2, 1) := by decide +kernel
theorem dX12_visit_57 : decode cX12_visit 57 = .ok (.iaload, 1) := by decide +kernel
theorem dX12_visit_58 : decode cX12_visit 58 = .ok (.if_icmp .le 5, 3) := by decide +kernel
theorem dX12_visit_61 : decode cX12_visit 61 = .ok (.iconst (-1), 1) := by decide +kernel
theorem dX12_visit_62 : decode cX12_visit 62 = .ok (.ireturn, 1) := by decide +kernel
theorem dX12_visit_63 : decode cX12_visit 63 = .ok (.aload_n 0, 1) := by decide +kernel
theorem dX12_visit_64 : decode cX12_visit 64 = .ok (.invokevirtual 382, 3) := by decide +kernel
theorem dX12_visit_67 : decode cX12_visit 67 = .ok (.aload_n 0, 1) := by decide +kernel
theorem dX12_visit_68 : decode cX12_visit 68 = .ok (.getfield 39, 3) := by decide +kernel
theorem dX12_visit_71 : decode cX12_visit 71 = .ok (.bipush 34, 2) := by decide +kernel
theorem dX12_visit_73 : decode cX12_visit 73 = .ok (.iload_n 1, 1) := by decide +kernel
theorem dX12_visit_74 : decode cX12_visit 74 = .ok (.iadd, 1) := by decide +kernel
theorem dX12_visit_75 : decode cX12_visit 75 = .ok (.iaload, 1) := by decide +kernel
theorem dX12_visit_76 : decode cX12_visit 76 = .ok (.istore_n 2, 1) := by decide +kernel
theorem dX12_visit_77 : decode cX12_visit 77 = .ok (.iload_n 2, 1) := by decide +kernel
theorem dX12_visit_78 : decode cX12_visit 78 = .ok (.aload_n 0, 1) := by decide +kernel
theorem dX12_visit_79 : decode cX12_visit 79 = .ok (.aload_n 0, 1) := by decide +kernel
theorem dX12_visit_80 : decode cX12_visit 80 = .ok (.getfield 39, 3) := by decide +kernel
theorem dX12_visit_83 : decode cX12_visit 83 = .ok (.bipush 11, 2) := by decide +kernel
theorem dX12_visit_85 : decode cX12_visit 85 = .ok (.iaload, 1) := by decide +kernel
theorem dX12_visit_86 : decode cX12_visit 86 = .ok (.iconst 1, 1) := by decide +kernel
theorem dX12_visit_87 : decode cX12_visit 87 = .ok (.invokevirtual 304, 3) := by decide +kernel
theorem dX12_visit_90 : decode cX12_visit 90 = .ok (.imul, 1) := by decide +kernel
theorem dX12_visit_91 : decode cX12_visit 91 = .ok (.bipush 99, 2) := by decide +kernel
theorem dX12_visit_93 : decode cX12_visit 93 = .ok (.iadd, 1) := by decide +kernel
theorem dX12_visit_94 : decode cX12_visit 94 = .ok (.bipush 100, 2) := by decide +kernel
theorem dX12_visit_96 : decode cX12_visit 96 = .ok (.idiv, 1) := by decide +kernel
theorem dX12_visit_97 : decode cX12_visit 97 = .ok (.istore_n 3, 1) := by decide +kernel
theorem dX12_visit_98 : decode cX12_visit 98 = .ok (.aload_n 0, 1) := by decide +kernel
theorem dX12_visit_99 : decode cX12_visit 99 = .ok (.getfield 39, 3) := by decide +kernel
theorem dX12_visit_102 : decode cX12_visit 102 = .ok (.bipush 34, 2) := by decide +kernel
theorem dX12_visit_104 : decode cX12_visit 104 = .ok (.iload_n 1, 1) := by decide +kernel
theorem dX12_visit_105 : decode cX12_visit 105 = .ok (.iadd, 1) := by decide +kernel
theorem dX12_visit_106 : decode cX12_visit 106 = .ok (.iconst 0, 1) := by decide +kernel
theorem dX12_visit_107 : decode cX12_visit 107 = .ok (.iastore, 1) := by decide +kernel
theorem dX12_visit_108 : decode cX12_visit 108 = .ok (.aload_n 0, 1) := by decide +kernel
theorem dX12_visit_109 : decode cX12_visit 109 = .ok (.getfield 39, 3) := by decide +kernel
theorem dX12_visit_112 : decode cX12_visit 112 = .ok (.bipush 13, 2) := by decide +kernel
theorem dX12_visit_114 : decode cX12_visit 114 = .ok (.aload_n 0, 1) := by decide +kernel
theorem dX12_visit_115 : decode cX12_visit 115 = .ok (.getfield 39, 3) := by decide +kernel
theorem dX12_visit_118 : decode cX12_visit 118 = .ok (.bipush 13, 2) := by decide +kernel
theorem dX12_visit_120 : decode cX12_visit 120 = .ok (.iaload, 1) := by decide +kernel
theorem dX12_visit_121 : decode cX12_visit 121 = .ok (.iload_n 2, 1) := by decide +kernel
theorem dX12_visit_122 : decode cX12_visit 122 = .ok (.iadd, 1) := by decide +kernel
theorem dX12_visit_123 : decode cX12_visit 123 = .ok (.iload_n 3, 1) := by decide +kernel
theorem dX12_visit_124 : decode cX12_visit 124 = .ok (.isub, 1) := by decide +kernel
theorem dX12_visit_125 : decode cX12_visit 125 = .ok (.ldc 167, 2) := by decide +kernel
theorem dX12_visit_127 : decode cX12_visit 127 = .ok (.invokestatic 370, 3) := by decide +kernel
theorem dX12_visit_130 : decode cX12_visit 130 = .ok (.iastore, 1) := by decide +kernel
theorem dX12_visit_131 : decode cX12_visit 131 = .ok (.aload_n 0, 1) := by decide +kernel
theorem dX12_visit_132 : decode cX12_visit 132 = .ok (.getfield 39, 3) := by decide +kernel
theorem dX12_visit_135 : decode cX12_visit 135 = .ok (.bipush 14, 2) := by decide +kernel
theorem dX12_visit_137 : decode cX12_visit 137 = .ok (.aload_n 0, 1) := by decide +kernel
theorem dX12_visit_138 : decode cX12_visit 138 = .ok (.getfield 39, 3) := by decide +kernel
theorem dX12_visit_141 : decode cX12_visit 141 = .ok (.bipush 14, 2) := by decide +kernel
theorem dX12_visit_143 : decode cX12_visit 143 = .ok (.iaload, 1) := by decide +kernel
theorem dX12_visit_144 : decode cX12_visit 144 = .ok (.iload_n 3, 1) := by decide +kernel
theorem dX12_visit_145 : decode cX12_visit 145 = .ok (.iadd, 1) := by decide +kernel
theorem dX12_visit_146 : decode cX12_visit 146 = .ok (.ldc 167, 2) := by decide +kernel
theorem dX12_visit_148 : decode cX12_visit 148 = .ok (.invokestatic 370, 3) := by decide +kernel
theorem dX12_visit_151 : decode cX12_visit 151 = .ok (.iastore, 1) := by decide +kernel
theorem dX12_visit_152 : decode cX12_visit 152 = .ok (.aload_n 0, 1) := by decide +kernel
theorem dX12_visit_153 : decode cX12_visit 153 = .ok (.getfield 39, 3) := by decide +kernel
theorem dX12_visit_156 : decode cX12_visit 156 = .ok (.bipush 15, 2) := by decide +kernel
theorem dX12_visit_158 : decode cX12_visit 158 = .ok (.iconst 1, 1) := by decide +kernel
theorem dX12_visit_159 : decode cX12_visit 159 = .ok (.iastore, 1) := by decide +kernel
theorem dX12_visit_160 : decode cX12_visit 160 = .ok (.iload_n 2, 1) := by decide +kernel
theorem dX12_visit_161 : decode cX12_visit 161 = .ok (.iload_n 3, 1) := by decide +kernel
theorem dX12_visit_162 : decode cX12_visit 162 = .ok (.isub, 1) := by decide +kernel
theorem dX12_visit_163 : decode cX12_visit 163 = .ok (.ireturn, 1) := by decide +kernel
set_option maxHeartbeats 4000000 in
set_option maxRecDepth 100000 in
theorem t_X12_visit (l : Launch) (dC : Nat → ClassId) (dI : Nat → Nat → Nat) (tys : List (ClassId × FieldType)) (κ : tK) (B : Nat) (ws : va_W) (hT : Ty κ tys B ws) (a0 : Nat) (k_a0 : κ a0 = some 12) (a1 : Int32) (f0 : Nat) (k_f0 : κ f0 = some 63) (f_a0_X12_20 : fld ws a0 12 20 (.ref f0)) (f1 : Int32) (l_f1 : 0 ≤ f1.toInt) (h_f1 : f1.toInt ≤ 999) (f_f0_M_said_10 : elt ws f0 (10 : Int32).toInt.toNat f1) (sz : Nat) : Met l yX12_visit (ws_u yX12_visit cX12_visit 4 (some .int)) ({ frames := 1, cells := 0, slots := 0, locals := 22 }) (va_Pc [.ref a0, .int a1] (cPre (dC, dI) tys ws sz)) (va_Qi (fun (r : Int32) (w : va_W) => Ty κ tys B w ∧ Sm [(12, 26)] [63, 65] κ ws w ∧ elt w f0 (10 : Int32).toInt.toNat f1) (fun w t => cPost (dC, dI) tys w (va_A ws sz) t) (va_A ws sz)) 0 0 (va_A ws sz) := by
  refine Met.ofW (cc := cX12_visit) (maxL := 4) (ret := (some .int)) (by decide) rfl ?_
  intro p e s m args below meth c s₁ B0 hml hv
  obtain ⟨rfl, hsz, hP, hK, hD0, hE⟩ := hv
  have hx := B0.exec
  have hb := B0.bytes
  have hr := B0.returns
  have hts0 := atoms_spec (ws := ws_u yX12_visit cX12_visit 4 (some .int)) B0.pre
  have hts : ∀ w ∈ gT, w.before _ s = true := fun w h => hts0 w (List.mem_cons_of_mem _ h)
  have hown : s.vm.findClass RX12 = some m.cls := findClass_of_methodNamed B0.named
  have hlocks := B0.notSynchronized
  subst hsz
  have hD := hD0.self (sz := s.heap.size)
  generalize hAe : va_A ws s.heap.size = A at hD ⊢
  have hA : ∀ q : Nat, s.heap.size ≤ q → A q := fun q h => by rw [← hAe]; exact Or.inr h
  have hw : tW (dC, dI) tys κ B A s ws s.heap [] := ⟨hK, hP, hD, va_S.rf, hT⟩
  have hM : Sm [(12, 26)] [63, 65] κ ws ws := Sm.rf
  clear hP hK hD hD0 hts0
  have l_a1 := i32_lo a1
  have h_a1 := i32_hi a1
  have hl := lv_entry ([.ref a0, .int a1]) (n := 4) (Nat.le_of_ble_eq_true rfl)
  rw [lg_entry_eq]
  generalize (lg_sl ([.ref a0, .int a1]) ++ List.replicate (4 - (lg_sl ([.ref a0, .int a1])).length) Slot.unset).toArray = ls at hl ⊢
  have hl : lv_has ls 4 [(0, .ref a0), (1, .int a1)] := hl
  refine t_start (fun QQ hQ => ?_)
  refine lv_aload_n hx hb dX12_visit_0 rfl (lv_at hl 0 rfl) ?_
  refine lv_iload_n hx hb dX12_visit_1 rfl (lv_at hl 1 rfl) ?_
  refine t_calli (va_runV (As := [.int a1]) (rest := []) ⟨hx, hb, hml, hown, hts⟩ (t_X12_isFarm l dC dI tys κ B ws hw.2.2.2.2 a0 k_a0 a1 s.heap.size) (cwV 1 hts (gUV tw_1477 tw_1479 ts_5_11 tw_13 tw_1480) rfl rfl rfl (by decide +kernel) ⟨(Nat.le_of_ble_eq_true rfl), (Nat.le_of_ble_eq_true rfl)⟩) ⟨cPre.blind, t_recv hw (ci := 12) k_a0 rfl rfl, cPre.use hw.2.1 hw.1 hw.2.2.1 hE⟩ rfl rfl hl.1 rfl (lv_room (Nat.le_of_ble_eq_true rfl)) dX12_visit_2 ⟨(Nat.le_of_ble_eq_true rfl), (Nat.le_of_ble_eq_true rfl)⟩) hw hA (fun _ _ h => h.2.2.1) (fun v2 w_1 H locs hp hw => ?_)
  obtain ⟨l_v2, h_v2, _, hm, x_v2_0⟩ := hp
  have hM := hM.trans hm (by decide) (by decide)
  have f_a0_X12_20 := hm.1 _ _ _ _ f_a0_X12_20 (by decide)
  have f_f0_M_said_10 := hm.elt k_f0 (by decide) f_f0_M_said_10
  refine lv_if_eq (tgt := 29) hx hb dX12_visit_5 (by decide) (fun c_5 => ?_) (fun c_5 => ?_)
  · simp only [fa_lt, fa_le, fa_eq, li_0] at c_5
    refine lv_iconst (v := (-1)) hx hb dX12_visit_29 (by decide) ?_
    rw [hQ]
    refine W.widen (k := 0) (n := 0) (Nat.le_refl _) (Nat.le_refl _) ?_
    exact W.iret (v := (-1)) hx hb hr (fun t ht hW => ⟨⟨(-1), w_1, rfl, ⟨hw.2.2.2.2, hM, f_f0_M_said_10⟩, by rw [ht]; exact hw.2.1, va_K.moved hW.alike hw.1, hw.2.2.1⟩, hw.2.2.2.1.F ht⟩) hw.2.2.2.1.2.2 dX12_visit_30
  · simp only [fa_lt, fa_le, fa_eq, li_0] at c_5
    refine lv_aload_n hx hb dX12_visit_8 rfl (lv_at hl 0 rfl) ?_
    refine t_getk (ci := 12) (C := RX12) (T := TX12) (N := 38) hx hb hts iX12 hown hw rfl 20 (by decide) (hts _ tw_1145) (fun _ h9 => h9) dX12_visit_9 f_a0_X12_20 ?_
    refine lv_bipush (v := 11) hx hb dX12_visit_12 (by decide) ?_
    refine t_iald hx hb hw k_f0 rfl rfl (by decide) (by decide) dX12_visit_14 (fun v14 r_v14 s_v14 f_f0_M_said_11 => ?_)
    have l_v14 : (-1) ≤ v14.toInt := by rw [iv_63_11] at r_v14; exact r_v14
    have h_v14 : v14.toInt ≤ 5 := by rw [iv_63_11] at s_v14; exact s_v14
    refine lv_if_lt (tgt := 29) hx hb dX12_visit_15 (by decide) (fun c_15 => ?_) (fun c_15 => ?_)
    · simp only [fa_lt, fa_le, fa_eq, li_0] at c_15
      refine lv_iconst (v := (-1)) hx hb dX12_visit_29 (by decide) ?_
      rw [hQ]
      refine W.widen (k := 0) (n := 0) (Nat.le_refl _) (Nat.le_refl _) ?_
      exact W.iret (v := (-1)) hx hb hr (fun t ht hW => ⟨⟨(-1), w_1, rfl, ⟨hw.2.2.2.2, hM, f_f0_M_said_10⟩, by rw [ht]; exact hw.2.1, va_K.moved hW.alike hw.1, hw.2.2.1⟩, hw.2.2.2.1.F ht⟩) hw.2.2.2.1.2.2 dX12_visit_30
    · simp only [fa_lt, fa_le, fa_eq, li_0] at c_15
      refine lv_aload_n hx hb dX12_visit_18 rfl (lv_at hl 0 rfl) ?_
      refine t_getk (ci := 12) (C := RX12) (T := TX12) (N := 38) hx hb hts iX12 hown hw rfl 20 (by decide) (hts _ tw_1145) (fun _ h9 => h9) dX12_visit_19 f_a0_X12_20 ?_
      refine lv_bipush (v := 15) hx hb dX12_visit_22 (by decide) ?_
      refine t_iald hx hb hw k_f0 rfl rfl (by decide) (by decide) dX12_visit_24 (fun v24 r_v24 s_v24 f_f0_M_said_15 => ?_)
      have l_v24 := i32_lo v24
      have h_v24 := i32_hi v24
      refine lv_iconst (v := 1) hx hb dX12_visit_25 (by decide) ?_
      refine lv_icmp_ne (tgt := 31) hx hb dX12_visit_26 (by decide) (fun c_26 => ?_) (fun c_26 => ?_)
      · simp only [fa_lt, fa_le, fa_eq, li_1] at c_26
        refine lv_aload_n hx hb dX12_visit_31 rfl (lv_at hl 0 rfl) ?_
        refine lv_iconst (v := 0) hx hb dX12_visit_32 (by decide) ?_
        refine lv_iload_n hx hb dX12_visit_33 rfl (lv_at hl 1 rfl) ?_
        refine lv_iconst (v := 1) hx hb dX12_visit_34 (by decide) ?_
        refine lv_iadd hx hb dX12_visit_35 ?_
        refine lv_topi (fun v35 e_v35 => ?_)
        have e_v35 : v35.toInt = a1.toInt + 1 := ad_i e_v35 rfl li_1 (by omega) (by omega)
        refine t_calli (va_runV (As := [.int 0, .int v35]) (rest := []) ⟨hx, hb, hml, hown, hts⟩ (t_X12_farOf l dC dI tys κ B w_1 hw.2.2.2.2 a0 k_a0 0 (by decide) (by decide) v35 (by omega) (by omega) H.size) (cwV 2 hts (gUV tw_1428 tw_1430 ts_5_4 tw_13 tw_1431) rfl rfl rfl (by decide +kernel) ⟨(Nat.le_of_ble_eq_true rfl), (Nat.le_of_ble_eq_true rfl)⟩) ⟨cPre.blind, t_recv hw (ci := 12) k_a0 rfl rfl, cPre.use hw.2.1 hw.1 hw.2.2.1 hE⟩ rfl rfl hl.1 rfl (lv_room (Nat.le_of_ble_eq_true rfl)) dX12_visit_36 ⟨(Nat.le_of_ble_eq_true rfl), (Nat.le_of_ble_eq_true rfl)⟩) hw hA (fun _ _ h => h.1) (fun v36 w_2 H locs hp hw => ?_)
        obtain ⟨_, hm⟩ := hp
        have l_v36 := i32_lo v36
        have h_v36 := i32_hi v36
        have hM := hM.trans hm (by decide) (by decide)
        have f_a0_X12_20 := hm.1 _ _ _ _ f_a0_X12_20 (by decide)
        have f_f0_M_said_10 := hm.elt k_f0 (by decide) f_f0_M_said_10
        have f_f0_M_said_11 := hm.elt k_f0 (by decide) f_f0_M_said_11
        have f_f0_M_said_15 := hm.elt k_f0 (by decide) f_f0_M_said_15
        refine lv_aload_n hx hb dX12_visit_39 rfl (lv_at hl 0 rfl) ?_
        refine t_calli (va_runV (As := []) (rest := [.int v36]) ⟨hx, hb, hml, hown, hts⟩ (t_X12_isSnow l dC dI tys κ B w_2 hw.2.2.2.2 a0 k_a0 H.size) (cwV 0 hts (gUV tw_1556 tw_1558 ts_6_12 tw_13 tw_1559) rfl rfl rfl (by decide +kernel) ⟨(Nat.le_of_ble_eq_true rfl), (Nat.le_of_ble_eq_true rfl)⟩) ⟨cPre.blind, t_recv hw (ci := 12) k_a0 rfl rfl, cPre.use hw.2.1 hw.1 hw.2.2.1 hE⟩ rfl rfl hl.1 rfl (lv_room (Nat.le_of_ble_eq_true rfl)) dX12_visit_40 ⟨(Nat.le_of_ble_eq_true rfl), (Nat.le_of_ble_eq_true rfl)⟩) hw hA (fun _ _ h => h.2.2.1) (fun v40 w_3 H locs hp hw => ?_)
        obtain ⟨l_v40, h_v40, _, hm⟩ := hp
        have hM := hM.trans hm (by decide) (by decide)
        have f_a0_X12_20 := hm.1 _ _ _ _ f_a0_X12_20 (by decide)
        have f_f0_M_said_10 := hm.elt k_f0 (by decide) f_f0_M_said_10
        have f_f0_M_said_11 := hm.elt k_f0 (by decide) f_f0_M_said_11
        have f_f0_M_said_15 := hm.elt k_f0 (by decide) f_f0_M_said_15
        have J51 : ∀ (H : Heap) (locs : List Loc) (ls : Array Slot) (w51 : va_W) (p51_s0 : Int32), tW (dC, dI) tys κ B A s w51 H locs → Sm [(12, 26)] [63, 65] κ ws w51 → 2 ≤ p51_s0.toInt → p51_s0.toInt ≤ 4 → fld w51 a0 12 20 (.ref f0) → elt w51 f0 (10 : Int32).toInt.toNat f1 → elt w51 f0 (11 : Int32).toInt.toNat v14 → elt w51 f0 (15 : Int32).toInt.toNat v24 → lv_has ls 4 [(0, .ref a0), (1, .int a1)] → W p l e (headSpec (ws_u yX12_visit cX12_visit 4 (some .int)) ({ frames := 1, cells := 0, slots := 0, locals := 22 })).room s m ([.ref a0, .int a1] : List Value).toArray below meth c H locs 0 0 QQ (F0 m 51 ls [.int p51_s0, .int v36]) := by
          intro H locs ls w51 p51_s0 hw hM l_p51_s0 h_p51_s0 f_a0_X12_20 f_f0_M_said_10 f_f0_M_said_11 f_f0_M_said_15 hl
          refine lv_imul hx hb dX12_visit_51 ?_
          refine lv_topi (fun v51 e_v51 => ?_)
          have l_v51 := i32_lo v51
          have h_v51 := i32_hi v51
          refine lv_aload_n hx hb dX12_visit_52 rfl (lv_at hl 0 rfl) ?_
          refine t_getk (ci := 12) (C := RX12) (T := TX12) (N := 38) hx hb hts iX12 hown hw rfl 20 (by decide) (hts _ tw_1145) (fun _ h9 => h9) dX12_visit_53 f_a0_X12_20 ?_
          refine lv_iconst (v := 2) hx hb dX12_visit_56 (by decide) ?_
          refine t_iald hx hb hw k_f0 rfl rfl (by decide) (by decide) dX12_visit_57 (fun v57 r_v57 s_v57 f_f0_M_said_2 => ?_)
          have l_v57 := i32_lo v57
          have h_v57 := i32_hi v57
          refine lv_icmp_le (tgt := 63) hx hb dX12_visit_58 (by decide) (fun c_58 => ?_) (fun c_58 => ?_)
          · simp only [fa_lt, fa_le, fa_eq] at c_58
            refine lv_aload_n hx hb dX12_visit_63 rfl (lv_at hl 0 rfl) ?_
            refine t_callv (va_runV (As := []) (rest := []) ⟨hx, hb, hml, hown, hts⟩ (t_X12_keepsAct l dC dI tys κ B w51 hw.2.2.2.2 a0 k_a0 f0 k_f0 f_a0_X12_20 f1 (by omega) (by omega) f_f0_M_said_10 H.size) (cwV 0 hts (gUV tw_1493 tw_1495 ts_5_13 tw_13 tw_1496) rfl rfl rfl (by decide +kernel) ⟨(Nat.le_of_ble_eq_true rfl), (Nat.le_of_ble_eq_true rfl)⟩) ⟨cPre.blind, t_recv hw (ci := 12) k_a0 rfl rfl, cPre.use hw.2.1 hw.1 hw.2.2.1 hE⟩ rfl rfl hl.1 rfl (lv_room (Nat.le_of_ble_eq_true rfl)) dX12_visit_64 ⟨(Nat.le_of_ble_eq_true rfl), (Nat.le_of_ble_eq_true rfl)⟩) hw hA (fun _ h => h.1) (fun w_4 H locs hp hw => ?_)
            obtain ⟨_, hm⟩ := hp
            have hM := hM.trans hm (by decide) (by decide)
            have f_a0_X12_20 := hm.1 _ _ _ _ f_a0_X12_20 (by decide)
            have f_f0_M_said_10 := hm.elt k_f0 (by decide) f_f0_M_said_10
            have f_f0_M_said_11 := hm.elt k_f0 (by decide) f_f0_M_said_11
            have f_f0_M_said_15 := hm.elt k_f0 (by decide) f_f0_M_said_15
            have f_f0_M_said_2 := hm.elt k_f0 (by decide) f_f0_M_said_2
            refine lv_aload_n hx hb dX12_visit_67 rfl (lv_at hl 0 rfl) ?_
            refine t_getk (ci := 12) (C := RX12) (T := TX12) (N := 38) hx hb hts iX12 hown hw rfl 20 (by decide) (hts _ tw_1145) (fun _ h9 => h9) dX12_visit_68 f_a0_X12_20 ?_
            refine lv_bipush (v := 34) hx hb dX12_visit_71 (by decide) ?_
            refine lv_iload_n hx hb dX12_visit_73 rfl (lv_at hl 1 rfl) ?_
            refine lv_iadd hx hb dX12_visit_74 ?_
            refine lv_topi (fun v74 e_v74 => ?_)
            have e_v74 : v74.toInt = 34 + a1.toInt := ad_i e_v74 li_34 rfl (by omega) (by omega)
            refine t_iald hx hb hw k_f0 rfl rfl (by omega) (show v74.toInt < 306 by omega) dX12_visit_75 (fun v75 r_v75 s_v75 q_v75 => ?_)
            have l_v75 := i32_lo v75
            have h_v75 := i32_hi v75
            refine lv_istore_n (lv' := [(2, .int v75), (0, .ref a0), (1, .int a1)]) hx hb dX12_visit_76 rfl hl (by decide) rfl (fun ls hl => ?_)
            refine lv_iload_n hx hb dX12_visit_77 rfl (lv_at hl 0 rfl) ?_
            refine lv_aload_n hx hb dX12_visit_78 rfl (lv_at hl 1 rfl) ?_
            refine lv_aload_n hx hb dX12_visit_79 rfl (lv_at hl 1 rfl) ?_
            refine t_getk (ci := 12) (C := RX12) (T := TX12) (N := 38) hx hb hts iX12 hown hw rfl 20 (by decide) (hts _ tw_1145) (fun _ h9 => h9) dX12_visit_80 f_a0_X12_20 ?_
            refine lv_bipush (v := 11) hx hb dX12_visit_83 (by decide) ?_
            refine t_ialdk hx hb hw k_f0 rfl rfl (by decide) (by decide) f_f0_M_said_11 dX12_visit_85 ?_
            refine lv_iconst (v := 1) hx hb dX12_visit_86 (by decide) ?_
            refine t_calli (va_runV (As := [.int v14, .int 1]) (rest := [.int v75]) ⟨hx, hb, hml, hown, hts⟩ (t_X12_boyOf l dC dI tys κ B w_4 hw.2.2.2.2 a0 k_a0 v14 (by omega) (by omega) 1 (by decide) (by decide) H.size) (cwV 2 hts (gUV tw_1453 tw_1455 ts_5_8 tw_13 tw_1456) rfl rfl rfl (by decide +kernel) ⟨(Nat.le_of_ble_eq_true rfl), (Nat.le_of_ble_eq_true rfl)⟩) ⟨cPre.blind, t_recv hw (ci := 12) k_a0 rfl rfl, cPre.use hw.2.1 hw.1 hw.2.2.1 hE⟩ rfl rfl hl.1 rfl (lv_room (Nat.le_of_ble_eq_true rfl)) dX12_visit_87 ⟨(Nat.le_of_ble_eq_true rfl), (Nat.le_of_ble_eq_true rfl)⟩) hw hA (fun _ _ h => h.1) (fun v87 w_5 H locs hp hw => ?_)
            obtain ⟨_, hm⟩ := hp
            have l_v87 := i32_lo v87
            have h_v87 := i32_hi v87
            have hM := hM.trans hm (by decide) (by decide)
            have f_a0_X12_20 := hm.1 _ _ _ _ f_a0_X12_20 (by decide)
            have f_f0_M_said_10 := hm.elt k_f0 (by decide) f_f0_M_said_10
            have f_f0_M_said_11 := hm.elt k_f0 (by decide) f_f0_M_said_11
            have f_f0_M_said_15 := hm.elt k_f0 (by decide) f_f0_M_said_15
            have f_f0_M_said_2 := hm.elt k_f0 (by decide) f_f0_M_said_2
            refine lv_imul hx hb dX12_visit_90 ?_
            refine lv_topi (fun v90 e_v90 => ?_)
            have l_v90 := i32_lo v90
            have h_v90 := i32_hi v90
            refine lv_bipush (v := 99) hx hb dX12_visit_91 (by decide) ?_
            refine lv_iadd hx hb dX12_visit_93 ?_
            refine lv_topi (fun v93 e_v93 => ?_)
            have l_v93 := i32_lo v93
            have h_v93 := i32_hi v93
            refine lv_bipush (v := 100) hx hb dX12_visit_94 (by decide) ?_
            refine lv_idiv hx hb dX12_visit_96 (ne_i li_100 (by decide)) ?_
            refine lv_topi (fun v96 e_v96 => ?_)
            have l_v96 := i32_lo v96
            have h_v96 := i32_hi v96
            refine lv_istore_n (lv' := [(3, .int v96), (2, .int v75), (0, .ref a0), (1, .int a1)]) hx hb dX12_visit_97 rfl hl (by decide) rfl (fun ls hl => ?_)
            refine lv_aload_n hx hb dX12_visit_98 rfl (lv_at hl 2 rfl) ?_
            refine t_getk (ci := 12) (C := RX12) (T := TX12) (N := 38) hx hb hts iX12 hown hw rfl 20 (by decide) (hts _ tw_1145) (fun _ h9 => h9) dX12_visit_99 f_a0_X12_20 ?_
            refine lv_bipush (v := 34) hx hb dX12_visit_102 (by decide) ?_
            refine lv_iload_n hx hb dX12_visit_104 rfl (lv_at hl 3 rfl) ?_
            refine lv_iadd hx hb dX12_visit_105 ?_
            refine lv_topi (fun v105 e_v105 => ?_)
            have e_v105 : v105.toInt = 34 + a1.toInt := ad_i e_v105 li_34 rfl (by omega) (by omega)
            refine lv_iconst (v := 0) hx hb dX12_visit_106 (by decide) ?_
            refine t_iast hx hb hw k_f0 rfl rfl (by omega) (show v105.toInt < 306 by omega) (by rw [fr_63 (by omega) (by omega)]; exact i32_lo _) (by rw [fr_63 (by omega) (by omega)]; exact i32_hi _) dX12_visit_107 (fun w_6 H locs hw u => ?_)
            have hM := hM.up3 u k_f0 (by decide)
            have f_a0_X12_20 := u.1 _ _ _ _ f_a0_X12_20
            have f_f0_M_said_10 := u.2.2.1 _ _ _ f_f0_M_said_10 (Or.inr (by rw [show (10 : Int32).toInt.toNat = 10 by decide]; omega))
            have f_f0_M_said_11 := u.2.2.1 _ _ _ f_f0_M_said_11 (Or.inr (by rw [show (11 : Int32).toInt.toNat = 11 by decide]; omega))
            have f_f0_M_said_15 := u.2.2.1 _ _ _ f_f0_M_said_15 (Or.inr (by rw [show (15 : Int32).toInt.toNat = 15 by decide]; omega))
            have f_f0_M_said_2 := u.2.2.1 _ _ _ f_f0_M_said_2 (Or.inr (by rw [show (2 : Int32).toInt.toNat = 2 by decide]; omega))
            refine lv_aload_n hx hb dX12_visit_108 rfl (lv_at hl 2 rfl) ?_
            refine t_getk (ci := 12) (C := RX12) (T := TX12) (N := 38) hx hb hts iX12 hown hw rfl 20 (by decide) (hts _ tw_1145) (fun _ h9 => h9) dX12_visit_109 f_a0_X12_20 ?_
            refine lv_bipush (v := 13) hx hb dX12_visit_112 (by decide) ?_
            refine lv_aload_n hx hb dX12_visit_114 rfl (lv_at hl 2 rfl) ?_
            refine t_getk (ci := 12) (C := RX12) (T := TX12) (N := 38) hx hb hts iX12 hown hw rfl 20 (by decide) (hts _ tw_1145) (fun _ h9 => h9) dX12_visit_115 f_a0_X12_20 ?_
            refine lv_bipush (v := 13) hx hb dX12_visit_118 (by decide) ?_
            refine t_iald hx hb hw k_f0 rfl rfl (by decide) (by decide) dX12_visit_120 (fun v120 r_v120 s_v120 f_f0_M_said_13 => ?_)
            have l_v120 := i32_lo v120
            have h_v120 := i32_hi v120
            refine lv_iload_n hx hb dX12_visit_121 rfl (lv_at hl 1 rfl) ?_
            refine lv_iadd hx hb dX12_visit_122 ?_
            refine lv_topi (fun v122 e_v122 => ?_)
            have l_v122 := i32_lo v122
            have h_v122 := i32_hi v122
            refine lv_iload_n hx hb dX12_visit_123 rfl (lv_at hl 0 rfl) ?_
            refine lv_isub hx hb dX12_visit_124 ?_
            refine lv_topi (fun v124 e_v124 => ?_)
            have l_v124 := i32_lo v124
            have h_v124 := i32_hi v124
            refine lv_ldc (v := 99999) hx hb hown (hts _ tw_1359) dX12_visit_125 ?_
            refine t_calli (va_runS (As := [.int v124, .int 99999]) (rest := [.int 13, .ref f0]) ⟨hx, hb, hml, hown, hts⟩ (t_X12_atMost l dC dI tys κ B w_6 hw.2.2.2.2 v124 99999 H.size) (va_cwS 2 hts (gUS tw_1560 tw_1561 tw_13 tw_1562) rfl rfl rfl (by decide +kernel) ⟨(Nat.le_of_ble_eq_true rfl), (Nat.le_of_ble_eq_true rfl)⟩) ⟨cPre.blind, cPre.use hw.2.1 hw.1 hw.2.2.1 hE⟩ rfl rfl hl.1 rfl (lv_room (Nat.le_of_ble_eq_true rfl)) dX12_visit_127 ⟨(Nat.le_of_ble_eq_true rfl), (Nat.le_of_ble_eq_true rfl)⟩) hw hA (fun _ _ h => h.1) (fun v127 w_7 H locs hp hw => ?_)
            obtain ⟨_, hm⟩ := hp
            have l_v127 := i32_lo v127
            have h_v127 := i32_hi v127
            have hM := hM.trans hm (by decide) (by decide)
            have f_a0_X12_20 := hm.1 _ _ _ _ f_a0_X12_20 (by decide)
            have f_f0_M_said_10 := hm.elt k_f0 (by decide) f_f0_M_said_10
            have f_f0_M_said_11 := hm.elt k_f0 (by decide) f_f0_M_said_11
            have f_f0_M_said_15 := hm.elt k_f0 (by decide) f_f0_M_said_15
            have f_f0_M_said_2 := hm.elt k_f0 (by decide) f_f0_M_said_2
            have f_f0_M_said_13 := hm.elt k_f0 (by decide) f_f0_M_said_13
            refine t_iast hx hb hw k_f0 rfl rfl (by decide) (by decide) (by rw [iv_63_13]; exact i32_lo _) (by rw [iv_63_13]; exact i32_hi _) dX12_visit_130 (fun w_8 H locs hw u => ?_)
            have hM := hM.up3 u k_f0 (by decide)
            have f_a0_X12_20 := u.1 _ _ _ _ f_a0_X12_20
            have f_f0_M_said_10 := u.2.2.1 _ _ _ f_f0_M_said_10 (Or.inr (by decide))
            have f_f0_M_said_11 := u.2.2.1 _ _ _ f_f0_M_said_11 (Or.inr (by decide))
            have f_f0_M_said_15 := u.2.2.1 _ _ _ f_f0_M_said_15 (Or.inr (by decide))
            have f_f0_M_said_2 := u.2.2.1 _ _ _ f_f0_M_said_2 (Or.inr (by decide))
            have f_f0_M_said_13 := u.2.2.2
            refine lv_aload_n hx hb dX12_visit_131 rfl (lv_at hl 2 rfl) ?_
            refine t_getk (ci := 12) (C := RX12) (T := TX12) (N := 38) hx hb hts iX12 hown hw rfl 20 (by decide) (hts _ tw_1145) (fun _ h9 => h9) dX12_visit_132 f_a0_X12_20 ?_
            refine lv_bipush (v := 14) hx hb dX12_visit_135 (by decide) ?_
            refine lv_aload_n hx hb dX12_visit_137 rfl (lv_at hl 2 rfl) ?_
            refine t_getk (ci := 12) (C := RX12) (T := TX12) (N := 38) hx hb hts iX12 hown hw rfl 20 (by decide) (hts _ tw_1145) (fun _ h9 => h9) dX12_visit_138 f_a0_X12_20 ?_
            refine lv_bipush (v := 14) hx hb dX12_visit_141 (by decide) ?_
            refine t_iald hx hb hw k_f0 rfl rfl (by decide) (by decide) dX12_visit_143 (fun v143 r_v143 s_v143 f_f0_M_said_14 => ?_)
            have l_v143 := i32_lo v143
            have h_v143 := i32_hi v143
            refine lv_iload_n hx hb dX12_visit_144 rfl (lv_at hl 0 rfl) ?_
            refine lv_iadd hx hb dX12_visit_145 ?_
            refine lv_topi (fun v145 e_v145 => ?_)
            have l_v145 := i32_lo v145
            have h_v145 := i32_hi v145
            refine lv_ldc (v := 99999) hx hb hown (hts _ tw_1359) dX12_visit_146 ?_
            refine t_calli (va_runS (As := [.int v145, .int 99999]) (rest := [.int 14, .ref f0]) ⟨hx, hb, hml, hown, hts⟩ (t_X12_atMost l dC dI tys κ B w_8 hw.2.2.2.2 v145 99999 H.size) (va_cwS 2 hts (gUS tw_1560 tw_1561 tw_13 tw_1562) rfl rfl rfl (by decide +kernel) ⟨(Nat.le_of_ble_eq_true rfl), (Nat.le_of_ble_eq_true rfl)⟩) ⟨cPre.blind, cPre.use hw.2.1 hw.1 hw.2.2.1 hE⟩ rfl rfl hl.1 rfl (lv_room (Nat.le_of_ble_eq_true rfl)) dX12_visit_148 ⟨(Nat.le_of_ble_eq_true rfl), (Nat.le_of_ble_eq_true rfl)⟩) hw hA (fun _ _ h => h.1) (fun v148 w_9 H locs hp hw => ?_)
            obtain ⟨_, hm⟩ := hp
            have l_v148 := i32_lo v148
            have h_v148 := i32_hi v148
            have hM := hM.trans hm (by decide) (by decide)
            have f_a0_X12_20 := hm.1 _ _ _ _ f_a0_X12_20 (by decide)
            have f_f0_M_said_10 := hm.elt k_f0 (by decide) f_f0_M_said_10
            have f_f0_M_said_11 := hm.elt k_f0 (by decide) f_f0_M_said_11
            have f_f0_M_said_15 := hm.elt k_f0 (by decide) f_f0_M_said_15
            have f_f0_M_said_2 := hm.elt k_f0 (by decide) f_f0_M_said_2
            have f_f0_M_said_13 := hm.elt k_f0 (by decide) f_f0_M_said_13
            have f_f0_M_said_14 := hm.elt k_f0 (by decide) f_f0_M_said_14
            refine t_iast hx hb hw k_f0 rfl rfl (by decide) (by decide) (by rw [iv_63_14]; exact i32_lo _) (by rw [iv_63_14]; exact i32_hi _) dX12_visit_151 (fun w_10 H locs hw u => ?_)
            have hM := hM.up3 u k_f0 (by decide)
            have f_a0_X12_20 := u.1 _ _ _ _ f_a0_X12_20
            have f_f0_M_said_10 := u.2.2.1 _ _ _ f_f0_M_said_10 (Or.inr (by decide))
            have f_f0_M_said_11 := u.2.2.1 _ _ _ f_f0_M_said_11 (Or.inr (by decide))
            have f_f0_M_said_15 := u.2.2.1 _ _ _ f_f0_M_said_15 (Or.inr (by decide))
            have f_f0_M_said_2 := u.2.2.1 _ _ _ f_f0_M_said_2 (Or.inr (by decide))
            have f_f0_M_said_13 := u.2.2.1 _ _ _ f_f0_M_said_13 (Or.inr (by decide))
            have f_f0_M_said_14 := u.2.2.2
            refine lv_aload_n hx hb dX12_visit_152 rfl (lv_at hl 2 rfl) ?_
            refine t_getk (ci := 12) (C := RX12) (T := TX12) (N := 38) hx hb hts iX12 hown hw rfl 20 (by decide) (hts _ tw_1145) (fun _ h9 => h9) dX12_visit_153 f_a0_X12_20 ?_
            refine lv_bipush (v := 15) hx hb dX12_visit_156 (by decide) ?_
            refine lv_iconst (v := 1) hx hb dX12_visit_158 (by decide) ?_
            refine t_iast hx hb hw k_f0 rfl rfl (by decide) (by decide) (by rw [iv_63_15]; exact i32_lo _) (by rw [iv_63_15]; exact i32_hi _) dX12_visit_159 (fun w_11 H locs hw u => ?_)
            have hM := hM.up3 u k_f0 (by decide)
            have f_a0_X12_20 := u.1 _ _ _ _ f_a0_X12_20
            have f_f0_M_said_10 := u.2.2.1 _ _ _ f_f0_M_said_10 (Or.inr (by decide))
            have f_f0_M_said_11 := u.2.2.1 _ _ _ f_f0_M_said_11 (Or.inr (by decide))
            have f_f0_M_said_15 := u.2.2.2
            have f_f0_M_said_2 := u.2.2.1 _ _ _ f_f0_M_said_2 (Or.inr (by decide))
            have f_f0_M_said_13 := u.2.2.1 _ _ _ f_f0_M_said_13 (Or.inr (by decide))
            have f_f0_M_said_14 := u.2.2.1 _ _ _ f_f0_M_said_14 (Or.inr (by decide))
            refine lv_iload_n hx hb dX12_visit_160 rfl (lv_at hl 1 rfl) ?_
            refine lv_iload_n hx hb dX12_visit_161 rfl (lv_at hl 0 rfl) ?_
            refine lv_isub hx hb dX12_visit_162 ?_
            refine lv_topi (fun v162 e_v162 => ?_)
            have l_v162 := i32_lo v162
            have h_v162 := i32_hi v162
            rw [hQ]
            refine W.widen (k := 0) (n := 0) (Nat.le_refl _) (Nat.le_refl _) ?_
            exact W.iret (v := v162) hx hb hr (fun t ht hW => ⟨⟨v162, w_11, rfl, ⟨hw.2.2.2.2, hM, f_f0_M_said_10⟩, by rw [ht]; exact hw.2.1, va_K.moved hW.alike hw.1, hw.2.2.1⟩, hw.2.2.2.1.F ht⟩) hw.2.2.2.1.2.2 dX12_visit_163
          · simp only [fa_lt, fa_le, fa_eq] at c_58
            refine lv_iconst (v := (-1)) hx hb dX12_visit_61 (by decide) ?_
            rw [hQ]
            refine W.widen (k := 0) (n := 0) (Nat.le_refl _) (Nat.le_refl _) ?_
            exact W.iret (v := (-1)) hx hb hr (fun t ht hW => ⟨⟨(-1), w51, rfl, ⟨hw.2.2.2.2, hM, f_f0_M_said_10⟩, by rw [ht]; exact hw.2.1, va_K.moved hW.alike hw.1, hw.2.2.1⟩, hw.2.2.2.1.F ht⟩) hw.2.2.2.1.2.2 dX12_visit_62
        refine lv_if_eq (tgt := 50) hx hb dX12_visit_43 (by decide) (fun c_43 => ?_) (fun c_43 => ?_)
        · simp only [fa_lt, fa_le, fa_eq, li_0] at c_43
          refine lv_iconst (v := 2) hx hb dX12_visit_50 (by decide) ?_
          exact J51 _ _ _ w_3 2 hw hM (by decide) (by decide) f_a0_X12_20 f_f0_M_said_10 f_f0_M_said_11 f_f0_M_said_15 (lv_sub hl [0, 1] rfl)
        · simp only [fa_lt, fa_le, fa_eq, li_0] at c_43
          refine lv_iconst (v := 4) hx hb dX12_visit_46 (by decide) ?_
          refine lv_goto (tgt := 51) hx hb dX12_visit_47 (by decide) ?_
          exact J51 _ _ _ w_3 4 hw hM (by decide) (by decide) f_a0_X12_20 f_f0_M_said_10 f_f0_M_said_11 f_f0_M_said_15 (lv_sub hl [0, 1] rfl)
      · simp only [fa_lt, fa_le, fa_eq, li_1] at c_26
        refine lv_iconst (v := (-1)) hx hb dX12_visit_29 (by decide) ?_
        rw [hQ]
        refine W.widen (k := 0) (n := 0) (Nat.le_refl _) (Nat.le_refl _) ?_
        exact W.iret (v := (-1)) hx hb hr (fun t ht hW => ⟨⟨(-1), w_1, rfl, ⟨hw.2.2.2.2, hM, f_f0_M_said_10⟩, by rw [ht]; exact hw.2.1, va_K.moved hW.alike hw.1, hw.2.2.1⟩, hw.2.2.2.1.F ht⟩) hw.2.2.2.1.2.2 dX12_visit_30
