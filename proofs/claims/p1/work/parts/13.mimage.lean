theorem tw_1316 : (Jvm.Cond.methodLink "BoyBishopModel" (121 : Nat) ({ cls := "BoyBishopModel", name := "in", desc := "(JJJ)Z" } : Jvm.MethodName)) ∈ gT := gT_in (List.mem_append_right _ (List.mem_append_right _ (List.mem_append_right _ (List.mem_append_right _ (List.mem_append_right _ (List.mem_append_right _ (List.mem_append_left _ (List.mem_of_getElem? (i := 116) rfl)))))))) rfl
theorem tw_1317 : (Jvm.Cond.static ({ cls := "BoyBishopModel", name := "in", desc := "(JJJ)Z" } : Jvm.MethodName)) ∈ gT := gT_in (List.mem_append_right _ (List.mem_append_right _ (List.mem_append_right _ (List.mem_append_right _ (List.mem_append_right _ (List.mem_append_right _ (List.mem_append_left _ (List.mem_of_getElem? (i := 117) rfl)))))))) rfl
theorem tw_1318 : (Jvm.Cond.code ({ cls := "BoyBishopModel", name := "in", desc := "(JJJ)Z" } : Jvm.MethodName) prog_14_method_2_code (6 : Nat) (Option.some Jvm.ClassFile.FieldType.boolean)) ∈ gT := gT_in (List.mem_append_right _ (List.mem_append_right _ (List.mem_append_right _ (List.mem_append_right _ (List.mem_append_right _ (List.mem_append_right _ (List.mem_append_left _ (List.mem_of_getElem? (i := 118) rfl)))))))) rfl
theorem tw_1452 : (Jvm.Cond.constantLong "BoyBishopModel" (323 : Nat) (3 : Int64)) ∈ gT := gT_in (List.mem_append_right _ (List.mem_append_right _ (List.mem_append_right _ (List.mem_append_right _ (List.mem_append_right _ (List.mem_append_right _ (List.mem_append_right _ (List.mem_append_left _ (List.mem_of_getElem? (i := 12) rfl))))))))) rfl
theorem dX12_back_0 : decode cX12_back 0 = .ok (.iload_n 1, 1) := by decide +kernel
theorem dX12_back_1 : decode cX12_back 1 = .ok (.i2l, 1) := by decide +kernel
theorem dX12_back_2 : decode cX12_back 2 = .ok (.lconst 0, 1) := by decide +kernel
theorem dX12_back_3 : decode cX12_back 3 = .ok (.ldc2_w 323, 3) := by decide +kernel
theorem dX12_back_6 : decode cX12_back 6 = .ok (.invokestatic 121, 3) := by decide +kernel
theorem dX12_back_9 : decode cX12_back 9 = .ok (.ifCond .eq 12, 3) := by decide +kernel
theorem dX12_back_12 : decode cX12_back 12 = .ok (.aload_n 0, 1) := by decide +kernel
theorem dX12_back_13 : decode cX12_back 13 = .ok (.getfield 80, 3) := by decide +kernel
theorem dX12_back_16 : decode cX12_back 16 = .ok (.iload_n 1, 1) := by decide +kernel
theorem dX12_back_17 : decode cX12_back 17 = .ok (.baload, 1) := by decide +kernel
theorem dX12_back_18 : decode cX12_back 18 = .ok (.ifCond .ne 5, 3) := by decide +kernel
theorem dX12_back_21 : decode cX12_back 21 = .ok (.iconst (-1), 1) := by decide +kernel
theorem dX12_back_22 : decode cX12_back 22 = .ok (.ireturn, 1) := by decide +kernel
theorem dX12_image_0 : decode cX12_image 0 = .ok (.iload_n 1, 1) := by decide +kernel
theorem dX12_image_1 : decode cX12_image 1 = .ok (.i2l, 1) := by decide +kernel
theorem dX12_image_2 : decode cX12_image 2 = .ok (.lconst 0, 1) := by decide +kernel
theorem dX12_image_3 : decode cX12_image 3 = .ok (.ldc2_w 323, 3) := by decide +kernel
theorem dX12_image_6 : decode cX12_image 6 = .ok (.invokestatic 121, 3) := by decide +kernel
theorem dX12_image_9 : decode cX12_image 9 = .ok (.ifCond .ne 5, 3) := by decide +kernel
theorem dX12_image_12 : decode cX12_image 12 = .ok (.iconst (-1), 1) := by decide +kernel
theorem dX12_image_13 : decode cX12_image 13 = .ok (.ireturn, 1) := by decide +kernel
theorem dX12_image_14 : decode cX12_image 14 = .ok (.aload_n 0, 1) := by decide +kernel
theorem dX12_image_15 : decode cX12_image 15 = .ok (.getfield 80, 3) := by decide +kernel
theorem dX12_image_18 : decode cX12_image 18 = .ok (.iload_n 1, 1) := by decide +kernel
theorem dX12_image_19 : decode cX12_image 19 = .ok (.iconst 1, 1) := by decide +kernel
theorem dX12_image_20 : decode cX12_image 20 = .ok (.bastore, 1) := by decide +kernel
theorem dX12_image_21 : decode cX12_image 21 = .ok (.aload_n 0, 1) := by decide +kernel
theorem dX12_image_22 : decode cX12_image 22 = .ok (.getfield 74, 3) := by decide +kernel
theorem dX12_image_25 : decode cX12_image 25 = .ok (.iload_n 1, 1) := by decide +kernel
theorem dX12_image_26 : decode cX12_image 26 = .ok (.aload_n 0, 1) := by decide +kernel
theorem dX12_image_27 : decode cX12_image 27 = .ok (.getfield 42, 3) := by decide +kernel
theorem dX12_image_30 : decode cX12_image 30 = .ok (.iastore, 1) := by decide +kernel
theorem dX12_image_31 : decode cX12_image 31 = .ok (.aload_n 0, 1) := by decide +kernel
theorem dX12_image_32 : decode cX12_image 32 = .ok (.getfield 77, 3) := by decide +kernel
theorem dX12_image_35 : decode cX12_image 35 = .ok (.iload_n 1, 1) := by decide +kernel
theorem dX12_image_36 : decode cX12_image 36 = .ok (.aload_n 0, 1) := by decide +kernel
theorem dX12_image_37 : decode cX12_image 37 = .ok (.getfield 456, 3) := by decide +kernel
theorem dX12_image_40 : decode cX12_image 40 = .ok (.iastore, 1) := by decide +kernel
theorem dX12_image_41 : decode cX12_image 41 = .ok (.iconst 0, 1) := by decide +kernel
theorem dX12_image_42 : decode cX12_image 42 = .ok (.istore_n 2, 1) := by decide +kernel
theorem dX12_image_43 : decode cX12_image 43 = .ok (.iload_n 2, 1) := by decide +kernel
theorem dX12_image_44 : decode cX12_image 44 = .ok (.sipush 306, 3) := by decide +kernel
theorem dX12_image_47 : decode cX12_image 47 = .ok (.if_icmp .ge 27, 3) := by decide +kernel
theorem dX12_image_50 : decode cX12_image 50 = .ok (.aload_n 0, 1) := by decide +kernel
theorem dX12_image_51 : decode cX12_image 51 = .ok (.getfield 71, 3) := by decide +kernel
theorem dX12_image_54 : decode cX12_image 54 = .ok (.sipush 306, 3) := by decide +kernel
theorem dX12_image_57 : decode cX12_image 57 = .ok (.iload_n 1, 1) := by decide +kernel
theorem dX12_image_58 : decode cX12_image 58 = .ok (.imul, 1) := by decide +kernel
theorem dX12_image_59 : decode cX12_image 59 = .ok (.iload_n 2, 1) := by decide +kernel
theorem dX12_image_60 : decode cX12_image 60 = .ok (.iadd, 1) := by decide +kernel
theorem dX12_image_61 : decode cX12_image 61 = .ok (.aload_n 0, 1) := by decide +kernel
theorem dX12_image_62 : decode cX12_image 62 = .ok (.getfield 39, 3) := by decide +kernel
theorem dX12_image_65 : decode cX12_image 65 = .ok (.iload_n 2, 1) := by decide +kernel
theorem dX12_image_66 : decode cX12_image 66 = .ok (.iaload, 1) := by decide +kernel
theorem dX12_image_67 : decode cX12_image 67 = .ok (.iastore, 1) := by decide +kernel
theorem dX12_image_68 : decode cX12_image 68 = .ok (.iinc 2 1, 3) := by decide +kernel
theorem dX12_image_71 : decode cX12_image 71 = .ok (.goto (-28), 3) := by decide +kernel
theorem dX12_image_74 : decode cX12_image 74 = .ok (.aload_n 0, 1) := by decide +kernel
theorem dX12_image_75 : decode cX12_image 75 = .ok (.getfield 39, 3) := by decide +kernel
theorem dX12_image_78 : decode cX12_image 78 = .ok (.bipush 10, 2) := by decide +kernel
theorem dX12_image_80 : decode cX12_image 80 = .ok (.iaload, 1) := by decide +kernel
theorem dX12_image_81 : decode cX12_image 81 = .ok (.ireturn, 1) := by decide +kernel
theorem dX12_in_0 : decode cX12_in 0 = .ok (.lload_n 0, 1) := by decide +kernel
theorem dX12_in_1 : decode cX12_in 1 = .ok (.lload_n 2, 1) := by decide +kernel
theorem dX12_in_2 : decode cX12_in 2 = .ok (.lcmp, 1) := by decide +kernel
theorem dX12_in_3 : decode cX12_in 3 = .ok (.ifCond .lt 14, 3) := by decide +kernel
theorem dX12_in_6 : decode cX12_in 6 = .ok (.lload_n 0, 1) := by decide +kernel
theorem dX12_in_7 : decode cX12_in 7 = .ok (.lload 4, 2) := by decide +kernel
theorem dX12_in_9 : decode cX12_in 9 = .ok (.lcmp, 1) := by decide +kernel
theorem dX12_in_10 : decode cX12_in 10 = .ok (.ifCond .gt 7, 3) := by decide +kernel
theorem dX12_in_13 : decode cX12_in 13 = .ok (.iconst 1, 1) := by decide +kernel
theorem dX12_in_14 : decode cX12_in 14 = .ok (.goto 4, 3) := by decide +kernel
theorem dX12_in_17 : decode cX12_in 17 = .ok (.iconst 0, 1) := by decide +kernel
theorem dX12_in_18 : decode cX12_in 18 = .ok (.ireturn, 1) := by decide +kernel
def f_in (v : Int64) : Int32 := if 0 ≤ v ∧ v ≤ 3 then 1 else 0
theorem fa_lt64 (a b : Int64) : a < b ↔ a.toInt < b.toInt := Int64.lt_iff_toInt_lt
theorem fa_le64 (a b : Int64) : a ≤ b ↔ a.toInt ≤ b.toInt := Int64.le_iff_toInt_le
theorem lj_0 : (0 : Int64).toInt = 0 := by decide
theorem lj_3 : (3 : Int64).toInt = 3 := by decide
theorem f_in4 {k : Int32} (h : ¬ f_in k.toInt64 = 0) : k = nI 0 ∨ k = nI 1 ∨ k = nI 2 ∨ k = nI 3 := by
  have hh : 0 ≤ k.toInt64 ∧ k.toInt64 ≤ 3 := by
    rcases Classical.em (0 ≤ k.toInt64 ∧ k.toInt64 ≤ 3) with q | q
    · exact q
    · exact absurd (by unfold f_in; rw [if_neg q]) h
  obtain ⟨h1, h2⟩ := hh
  simp only [fa_le64, lj_0, lj_3, Int32.toInt_toInt64] at h1 h2
  refine k4 ?_ ?_
  · rw [fa_lt, show (0 : Int32).toInt = 0 by decide]; omega
  · rw [fa_le, show (4 : Int32).toInt = 4 by decide]; omega
theorem f_in0 {k : Int32} (h : f_in k.toInt64 = 0) : f_image k = -1 := by
  unfold f_image
  rw [if_neg]
  rintro ⟨h1, h2⟩
  unfold f_in at h
  rw [if_pos] at h
  · exact absurd h (by decide)
  · simp only [fa_le64, lj_0, lj_3, Int32.toInt_toInt64]
    rw [fa_le, show (0 : Int32).toInt = 0 by decide] at h1
    rw [fa_le, show (3 : Int32).toInt = 3 by decide] at h2
    exact ⟨h1, h2⟩
set_option maxHeartbeats 4000000 in
set_option maxRecDepth 100000 in
theorem m_in (l : Launch) (dC : Nat → ClassId) (dI : Nat → Nat → Nat) (v : Int64) (sz : Nat) : Met l yX12_in (ws_u yX12_in cX12_in 6 (some .boolean)) ({ frames := 0, cells := 0, slots := 0, locals := 0 }) (va_Pc [.long v, .long 0, .long 3] (cPre (dC, dI) [] [] sz)) (va_Qi (fun (r : Int32) (_ : Unit) => r = f_in v) (fun _ t => cPost (dC, dI) [] [] (va_A [] sz) t) (va_A [] sz)) 0 0 (va_A [] sz) := by
  refine Met.ofW (cc := cX12_in) (maxL := 6) (ret := (some .boolean)) (by decide) rfl ?_
  intro p e s m args below meth c s₁ B hml hv
  obtain ⟨rfl, hsz, hP, hK, hD0, hE⟩ := hv
  have hx := B.exec
  have hb := B.bytes
  have hr := B.returns
  have hts0 := atoms_spec (ws := ws_u yX12_in cX12_in 6 (some .boolean)) B.pre
  have hts : ∀ w ∈ gT, w.before _ s = true := fun w h => hts0 w (List.mem_cons_of_mem _ h)
  have hown : s.vm.findClass RX12 = some m.cls := findClass_of_methodNamed B.named
  have hlocks := B.notSynchronized
  subst hsz
  have hD := hD0.self (sz := s.heap.size)
  generalize hAe : va_A [] s.heap.size = A at hD ⊢
  have hA : ∀ q : Nat, s.heap.size ≤ q → A q := fun q h => by rw [← hAe]; exact Or.inr h
  have hS : va_S A s.heap s.heap [] := va_S.rf
  have hl := lv_entry ([.long v, .long 0, .long 3]) (n := 6) (Nat.le_of_ble_eq_true rfl)
  rw [lg_entry_eq]
  generalize (lg_sl ([.long v, .long 0, .long 3]) ++ List.replicate (6 - (lg_sl ([.long v, .long 0, .long 3])).length) Slot.unset).toArray = ls at hl ⊢
  have hl : lv_has ls 6 [(0, .long v), (2, .long 0), (4, .long 3)] := hl
  have hP : va_P (dC, dI) vwCl [] s.heap := hP
  try clear hAe
  refine lv_lload_n hx hb dX12_in_0 rfl (lv_at hl 0 rfl) ?_
  refine lv_lload_n hx hb dX12_in_1 rfl (lv_at hl 1 rfl) ?_
  refine W.lcmp hx hb dX12_in_2 ?_
  refine lv_topi (fun x_1 ex_1 => ?_)
  refine lv_if_lt (tgt := 17) hx hb dX12_in_3 (by decide) (fun c_2 => ?_) (fun c_2 => ?_)
  · refine lv_iconst (v := 0) hx hb dX12_in_17 (by decide) ?_
    have hP9 := hP.sub (ws' := []) [] rfl
    have hD9 := hD.sub (ws' := []) [] (by decide) rfl
    have hK9 := hK.sub (tys' := []) [] rfl
    refine W.widen (k := 0) (n := 0) (Nat.le_of_ble_eq_true rfl) (Nat.le_of_ble_eq_true rfl) ?_
    exact W.zret (v := 0) hx hb hr rfl (fun t ht hW => ⟨⟨0, (), rfl, (by rw [ex_1] at c_2; simp only [lg_cmp_lt, lg_cmp_gt, fa_lt64, lj_0, lj_3] at c_2; unfold f_in; split <;> rename_i hh <;> first | rfl | (simp only [fa_le64, lj_0, lj_3] at hh; exfalso; omega)), ⟨by rw [ht]; exact hP9, va_K.moved hW.alike hK9, hD9⟩⟩, hS.F ht⟩) hS.2.2 dX12_in_18
  · refine lv_lload_n hx hb dX12_in_6 rfl (lv_at hl 0 rfl) ?_
    refine lv_lload hx hb dX12_in_7 (lv_at hl 2 rfl) ?_
    refine W.lcmp hx hb dX12_in_9 ?_
    refine lv_topi (fun x_3 ex_3 => ?_)
    refine lv_if_gt (tgt := 17) hx hb dX12_in_10 (by decide) (fun c_4 => ?_) (fun c_4 => ?_)
    · refine lv_iconst (v := 0) hx hb dX12_in_17 (by decide) ?_
      have hP9 := hP.sub (ws' := []) [] rfl
      have hD9 := hD.sub (ws' := []) [] (by decide) rfl
      have hK9 := hK.sub (tys' := []) [] rfl
      refine W.widen (k := 0) (n := 0) (Nat.le_of_ble_eq_true rfl) (Nat.le_of_ble_eq_true rfl) ?_
      exact W.zret (v := 0) hx hb hr rfl (fun t ht hW => ⟨⟨0, (), rfl, (by rw [ex_1] at c_2; simp only [lg_cmp_lt, lg_cmp_gt, fa_lt64, lj_0, lj_3] at c_2; rw [ex_3] at c_4; simp only [lg_cmp_lt, lg_cmp_gt, fa_lt64, lj_0, lj_3] at c_4; unfold f_in; split <;> rename_i hh <;> first | rfl | (simp only [fa_le64, lj_0, lj_3] at hh; exfalso; omega)), ⟨by rw [ht]; exact hP9, va_K.moved hW.alike hK9, hD9⟩⟩, hS.F ht⟩) hS.2.2 dX12_in_18
    · refine lv_iconst (v := 1) hx hb dX12_in_13 (by decide) ?_
      refine lv_goto (tgt := 18) hx hb dX12_in_14 (by decide) ?_
      have hP9 := hP.sub (ws' := []) [] rfl
      have hD9 := hD.sub (ws' := []) [] (by decide) rfl
      have hK9 := hK.sub (tys' := []) [] rfl
      refine W.widen (k := 0) (n := 0) (Nat.le_of_ble_eq_true rfl) (Nat.le_of_ble_eq_true rfl) ?_
      exact W.zret (v := 1) hx hb hr rfl (fun t ht hW => ⟨⟨1, (), rfl, (by rw [ex_1] at c_2; simp only [lg_cmp_lt, lg_cmp_gt, fa_lt64, lj_0, lj_3] at c_2; rw [ex_3] at c_4; simp only [lg_cmp_lt, lg_cmp_gt, fa_lt64, lj_0, lj_3] at c_4; unfold f_in; split <;> rename_i hh <;> first | rfl | (simp only [fa_le64, lj_0, lj_3] at hh; exfalso; omega)), ⟨by rw [ht]; exact hP9, va_K.moved hW.alike hK9, hD9⟩⟩, hS.F ht⟩) hS.2.2 dX12_in_18
set_option maxHeartbeats 4000000 in
set_option maxRecDepth 100000 in
theorem m_image (l : Launch) (dC : Nat → ClassId) (dI : Nat → Nat → Nat) (h0 : Nat) (m_tape : Nat) (m_sign : Nat) (m_length : Nat) (m_clause : Nat) (m_clauses : Nat) (m_read : Nat) (m_open : Nat) (m_stack : Nat) (m_word : Nat) (m_said : Nat) (m_vote : Nat) (m_wasSaid : Nat) (m_kept : Nat) (m_wanted : Nat) (m_chosenBy : Nat) (m_gone : Nat) (m_isFit : Nat) (m_bishopThen : Nat) (m_images : Nat) (m_imageForce : Nat) (m_imageX : Nat) (m_isMade : Nat) (mk_said : ClassId) (mk_images : ClassId) (mk_imageForce : ClassId) (mk_imageX : ClassId) (mk_isMade : ClassId) (a0 : Int32) (sz : Nat) : Met l yX12_image (ws_u yX12_image cX12_image 3 (some .int)) ({ frames := 1, cells := 0, slots := 0, locals := 25 }) (va_Pc [.ref h0, .int a0] (cPre (dC, dI) [(mk_said, .int), (mk_images, .int), (mk_imageForce, .int), (mk_imageX, .int), (mk_isMade, .boolean)] [(h0, .inr (12, [.ref m_tape, .int 0, .int 0, .ref m_sign, .ref m_length, .ref m_clause, .ref m_clauses, .ref m_read, .int 0, .int 0, .int 0, .int 0, .int 0, .int 0, .int 0, .ref m_open, .int 0, .ref m_stack, .int 0, .ref m_word, .ref m_said, .int (-1), .int 0, .ref m_vote, .int 0, .ref m_wasSaid, .int 0, .ref m_kept, .ref m_wanted, .ref m_chosenBy, .ref m_gone, .ref m_isFit, .ref m_bishopThen, .long 0, .ref m_images, .ref m_imageForce, .ref m_imageX, .ref m_isMade])), (m_said, .inl (mk_said, 306, .inl (fun _ => 0))), (m_images, .inl (mk_images, 1224, .inl (fun _ => 0))), (m_imageForce, .inl (mk_imageForce, 4, .inl (fun _ => 0))), (m_imageX, .inl (mk_imageX, 4, .inl (fun _ => 0))), (m_isMade, .inl (mk_isMade, 4, .inl (fun _ => 0)))] sz)) (va_Qi (fun (r : Int32) (_ : Unit) => r = f_image a0) (fun _ _ => True) (va_A [(h0, .inr (12, [.ref m_tape, .int 0, .int 0, .ref m_sign, .ref m_length, .ref m_clause, .ref m_clauses, .ref m_read, .int 0, .int 0, .int 0, .int 0, .int 0, .int 0, .int 0, .ref m_open, .int 0, .ref m_stack, .int 0, .ref m_word, .ref m_said, .int (-1), .int 0, .ref m_vote, .int 0, .ref m_wasSaid, .int 0, .ref m_kept, .ref m_wanted, .ref m_chosenBy, .ref m_gone, .ref m_isFit, .ref m_bishopThen, .long 0, .ref m_images, .ref m_imageForce, .ref m_imageX, .ref m_isMade])), (m_said, .inl (mk_said, 306, .inl (fun _ => 0))), (m_images, .inl (mk_images, 1224, .inl (fun _ => 0))), (m_imageForce, .inl (mk_imageForce, 4, .inl (fun _ => 0))), (m_imageX, .inl (mk_imageX, 4, .inl (fun _ => 0))), (m_isMade, .inl (mk_isMade, 4, .inl (fun _ => 0)))] sz)) 0 0 (va_A [(h0, .inr (12, [.ref m_tape, .int 0, .int 0, .ref m_sign, .ref m_length, .ref m_clause, .ref m_clauses, .ref m_read, .int 0, .int 0, .int 0, .int 0, .int 0, .int 0, .int 0, .ref m_open, .int 0, .ref m_stack, .int 0, .ref m_word, .ref m_said, .int (-1), .int 0, .ref m_vote, .int 0, .ref m_wasSaid, .int 0, .ref m_kept, .ref m_wanted, .ref m_chosenBy, .ref m_gone, .ref m_isFit, .ref m_bishopThen, .long 0, .ref m_images, .ref m_imageForce, .ref m_imageX, .ref m_isMade])), (m_said, .inl (mk_said, 306, .inl (fun _ => 0))), (m_images, .inl (mk_images, 1224, .inl (fun _ => 0))), (m_imageForce, .inl (mk_imageForce, 4, .inl (fun _ => 0))), (m_imageX, .inl (mk_imageX, 4, .inl (fun _ => 0))), (m_isMade, .inl (mk_isMade, 4, .inl (fun _ => 0)))] sz) := by
  refine Met.ofW (cc := cX12_image) (maxL := 3) (ret := (some .int)) (by decide) rfl ?_
  intro p e s m args below meth c s₁ B hml hv
  obtain ⟨rfl, hsz, hP, hK, hD0, hE⟩ := hv
  have hx := B.exec
  have hb := B.bytes
  have hr := B.returns
  have hts0 := atoms_spec (ws := ws_u yX12_image cX12_image 3 (some .int)) B.pre
  have hts : ∀ w ∈ gT, w.before _ s = true := fun w h => hts0 w (List.mem_cons_of_mem _ h)
  have hown : s.vm.findClass RX12 = some m.cls := findClass_of_methodNamed B.named
  have hlocks := B.notSynchronized
  subst hsz
  have hD := hD0.self (sz := s.heap.size)
  generalize hAe : va_A [(h0, .inr (12, [.ref m_tape, .int 0, .int 0, .ref m_sign, .ref m_length, .ref m_clause, .ref m_clauses, .ref m_read, .int 0, .int 0, .int 0, .int 0, .int 0, .int 0, .int 0, .ref m_open, .int 0, .ref m_stack, .int 0, .ref m_word, .ref m_said, .int (-1), .int 0, .ref m_vote, .int 0, .ref m_wasSaid, .int 0, .ref m_kept, .ref m_wanted, .ref m_chosenBy, .ref m_gone, .ref m_isFit, .ref m_bishopThen, .long 0, .ref m_images, .ref m_imageForce, .ref m_imageX, .ref m_isMade])), (m_said, .inl (mk_said, 306, .inl (fun _ => 0))), (m_images, .inl (mk_images, 1224, .inl (fun _ => 0))), (m_imageForce, .inl (mk_imageForce, 4, .inl (fun _ => 0))), (m_imageX, .inl (mk_imageX, 4, .inl (fun _ => 0))), (m_isMade, .inl (mk_isMade, 4, .inl (fun _ => 0)))] s.heap.size = A at hD ⊢
  have hA : ∀ q : Nat, s.heap.size ≤ q → A q := fun q h => by rw [← hAe]; exact Or.inr h
  have hS : va_S A s.heap s.heap [] := va_S.rf
  have hl := lv_entry ([.ref h0, .int a0]) (n := 3) (Nat.le_of_ble_eq_true rfl)
  rw [lg_entry_eq]
  generalize (lg_sl ([.ref h0, .int a0]) ++ List.replicate (3 - (lg_sl ([.ref h0, .int a0])).length) Slot.unset).toArray = ls at hl ⊢
  have hl : lv_has ls 3 [(0, .ref h0), (1, .int a0)] := hl
  have hP : va_P (dC, dI) vwCl [(h0, .inr (12, [.ref m_tape, .int 0, .int 0, .ref m_sign, .ref m_length, .ref m_clause, .ref m_clauses, .ref m_read, .int 0, .int 0, .int 0, .int 0, .int 0, .int 0, .int 0, .ref m_open, .int 0, .ref m_stack, .int 0, .ref m_word, .ref m_said, .int (-1), .int 0, .ref m_vote, .int 0, .ref m_wasSaid, .int 0, .ref m_kept, .ref m_wanted, .ref m_chosenBy, .ref m_gone, .ref m_isFit, .ref m_bishopThen, .long 0, .ref m_images, .ref m_imageForce, .ref m_imageX, .ref m_isMade])), (m_said, .inl (mk_said, 306, .inl (fun _ => 0))), (m_images, .inl (mk_images, 1224, .inl (fun _ => 0))), (m_imageForce, .inl (mk_imageForce, 4, .inl (fun _ => 0))), (m_imageX, .inl (mk_imageX, 4, .inl (fun _ => 0))), (m_isMade, .inl (mk_isMade, 4, .inl (fun _ => 0)))] s.heap := hP
  try clear hAe
  refine lv_iload_n hx hb dX12_image_0 rfl (lv_at hl 1 rfl) ?_
  refine lv_i2l (v := a0.toInt64) hx hb dX12_image_1 rfl ?_
  refine lv_lconst (v := 0) hx hb dX12_image_2 (by decide) ?_
  refine lv_ldc2 (v := 3) hx hb hown (hts _ tw_1452) dX12_image_3 ?_
  have hPc := hP.sub (ws' := []) [] rfl
  have hDc := hD.sub (ws' := []) [] (by decide) rfl
  have hKc := hK.sub (tys' := []) [] rfl
  have hFc := va_free (wc := []) hD hS hA [] rfl
  refine va_calli (va_runS (As := [.long a0.toInt64, .long 0, .long 3]) (rest := []) ⟨hx, hb, hml, hown, hts⟩ (m_in l dC dI a0.toInt64  s.heap.size) (va_cwS 3 hts (gUS tw_1316 tw_1317 tw_13 tw_1318) rfl rfl rfl (by decide +kernel) ⟨(Nat.le_of_ble_eq_true rfl), (Nat.le_of_ble_eq_true rfl)⟩) ⟨cPre.blind, cPre.use hPc hKc hDc hE⟩ rfl rfl hl.1 rfl (lv_room (Nat.le_of_ble_eq_true rfl)) dX12_image_6 ⟨(Nat.le_of_ble_eq_true rfl), (Nat.le_of_ble_eq_true rfl)⟩) hS (fun q _ h => hFc q h) hFc (fun r_1 u t H1 locs ht hvm hw hB hz1 hk1 hS => ?_)
  obtain ⟨hP1, hK1, hD1⟩ := hB
  rw [ht] at hP1
  obtain ⟨hP, hD⟩ := va_join (wr := [(h0, .inr (12, [.ref m_tape, .int 0, .int 0, .ref m_sign, .ref m_length, .ref m_clause, .ref m_clauses, .ref m_read, .int 0, .int 0, .int 0, .int 0, .int 0, .int 0, .int 0, .ref m_open, .int 0, .ref m_stack, .int 0, .ref m_word, .ref m_said, .int (-1), .int 0, .ref m_vote, .int 0, .ref m_wasSaid, .int 0, .ref m_kept, .ref m_wanted, .ref m_chosenBy, .ref m_gone, .ref m_isFit, .ref m_bishopThen, .long 0, .ref m_images, .ref m_imageForce, .ref m_imageX, .ref m_isMade])), (m_said, .inl (mk_said, 306, .inl (fun _ => 0))), (m_images, .inl (mk_images, 1224, .inl (fun _ => 0))), (m_imageForce, .inl (mk_imageForce, 4, .inl (fun _ => 0))), (m_imageX, .inl (mk_imageX, 4, .inl (fun _ => 0))), (m_isMade, .inl (mk_isMade, 4, .inl (fun _ => 0)))]) (w1 := []) hP hD [] [0, 1, 2, 3, 4, 5] rfl rfl (by decide) (by decide) hk1 hFc hP1 hD1
  generalize H1 = H at hP hS ⊢
  have hP : va_P (dC, dI) vwCl [(h0, .inr (12, [.ref m_tape, .int 0, .int 0, .ref m_sign, .ref m_length, .ref m_clause, .ref m_clauses, .ref m_read, .int 0, .int 0, .int 0, .int 0, .int 0, .int 0, .int 0, .ref m_open, .int 0, .ref m_stack, .int 0, .ref m_word, .ref m_said, .int (-1), .int 0, .ref m_vote, .int 0, .ref m_wasSaid, .int 0, .ref m_kept, .ref m_wanted, .ref m_chosenBy, .ref m_gone, .ref m_isFit, .ref m_bishopThen, .long 0, .ref m_images, .ref m_imageForce, .ref m_imageX, .ref m_isMade])), (m_said, .inl (mk_said, 306, .inl (fun _ => 0))), (m_images, .inl (mk_images, 1224, .inl (fun _ => 0))), (m_imageForce, .inl (mk_imageForce, 4, .inl (fun _ => 0))), (m_imageX, .inl (mk_imageX, 4, .inl (fun _ => 0))), (m_isMade, .inl (mk_isMade, 4, .inl (fun _ => 0)))] H := hP
  have hD : va_D A [(h0, .inr (12, [.ref m_tape, .int 0, .int 0, .ref m_sign, .ref m_length, .ref m_clause, .ref m_clauses, .ref m_read, .int 0, .int 0, .int 0, .int 0, .int 0, .int 0, .int 0, .ref m_open, .int 0, .ref m_stack, .int 0, .ref m_word, .ref m_said, .int (-1), .int 0, .ref m_vote, .int 0, .ref m_wasSaid, .int 0, .ref m_kept, .ref m_wanted, .ref m_chosenBy, .ref m_gone, .ref m_isFit, .ref m_bishopThen, .long 0, .ref m_images, .ref m_imageForce, .ref m_imageX, .ref m_isMade])), (m_said, .inl (mk_said, 306, .inl (fun _ => 0))), (m_images, .inl (mk_images, 1224, .inl (fun _ => 0))), (m_imageForce, .inl (mk_imageForce, 4, .inl (fun _ => 0))), (m_imageX, .inl (mk_imageX, 4, .inl (fun _ => 0))), (m_isMade, .inl (mk_isMade, 4, .inl (fun _ => 0)))] := hD
  obtain rfl : r_1 = f_in a0.toInt64 := hw
  refine lv_if_ne (tgt := 14) hx hb dX12_image_9 (by decide) (fun c_2 => ?_) (fun c_2 => ?_)
  · rcases f_in4 c_2 with rfl | rfl | rfl | rfl
    · refine lv_aload_n hx hb dX12_image_14 rfl (lv_at hl 0 rfl) ?_
      refine va_get (D := (dC, dI)) (ci := 12) (v := .ref m_isMade) (C := RX12) (T := TX12) (N := 38) hx hb hts iX12 hown hK hP 0 rfl rfl 37 (by decide) (hts _ tw_1162) (fun _ h9 => h9) rfl dX12_image_15 ?_
      refine lv_iload_n hx hb dX12_image_18 rfl (lv_at hl 1 rfl) ?_
      refine lv_iconst (v := 1) hx hb dX12_image_19 (by decide) ?_
      refine va_zast hx hb hK hP hD hS 5 4 rfl rfl (show vp_in (nI 0) 4 from (by decide : ¬ ((nI 0 : Int32) < 0 ∨ 4 ≤ (nI 0 : Int32).toNatClampNeg))) dX12_image_20 (fun H locs hP hD hS => ?_)
      have hP : va_P (dC, dI) vwCl [(h0, .inr (12, [.ref m_tape, .int 0, .int 0, .ref m_sign, .ref m_length, .ref m_clause, .ref m_clauses, .ref m_read, .int 0, .int 0, .int 0, .int 0, .int 0, .int 0, .int 0, .ref m_open, .int 0, .ref m_stack, .int 0, .ref m_word, .ref m_said, .int (-1), .int 0, .ref m_vote, .int 0, .ref m_wasSaid, .int 0, .ref m_kept, .ref m_wanted, .ref m_chosenBy, .ref m_gone, .ref m_isFit, .ref m_bishopThen, .long 0, .ref m_images, .ref m_imageForce, .ref m_imageX, .ref m_isMade])), (m_said, .inl (mk_said, 306, .inl (fun _ => 0))), (m_images, .inl (mk_images, 1224, .inl (fun _ => 0))), (m_imageForce, .inl (mk_imageForce, 4, .inl (fun _ => 0))), (m_imageX, .inl (mk_imageX, 4, .inl (fun _ => 0))), (m_isMade, .inl (mk_isMade, 4, .inl (upd (fun _ => 0) (Int32.toNatClampNeg (nI 0)) (vp_nar .boolean 1))))] H := hP
      have hD : va_D A [(h0, .inr (12, [.ref m_tape, .int 0, .int 0, .ref m_sign, .ref m_length, .ref m_clause, .ref m_clauses, .ref m_read, .int 0, .int 0, .int 0, .int 0, .int 0, .int 0, .int 0, .ref m_open, .int 0, .ref m_stack, .int 0, .ref m_word, .ref m_said, .int (-1), .int 0, .ref m_vote, .int 0, .ref m_wasSaid, .int 0, .ref m_kept, .ref m_wanted, .ref m_chosenBy, .ref m_gone, .ref m_isFit, .ref m_bishopThen, .long 0, .ref m_images, .ref m_imageForce, .ref m_imageX, .ref m_isMade])), (m_said, .inl (mk_said, 306, .inl (fun _ => 0))), (m_images, .inl (mk_images, 1224, .inl (fun _ => 0))), (m_imageForce, .inl (mk_imageForce, 4, .inl (fun _ => 0))), (m_imageX, .inl (mk_imageX, 4, .inl (fun _ => 0))), (m_isMade, .inl (mk_isMade, 4, .inl (upd (fun _ => 0) (Int32.toNatClampNeg (nI 0)) (vp_nar .boolean 1))))] := hD
      generalize upd (fun _ => 0) (Int32.toNatClampNeg (nI 0)) (vp_nar .boolean 1) = f_3 at hP hD
      refine lv_aload_n hx hb dX12_image_21 rfl (lv_at hl 0 rfl) ?_
      refine va_get (D := (dC, dI)) (ci := 12) (v := .ref m_imageForce) (C := RX12) (T := TX12) (N := 38) hx hb hts iX12 hown hK hP 0 rfl rfl 35 (by decide) (hts _ tw_1160) (fun _ h9 => h9) rfl dX12_image_22 ?_
      refine lv_iload_n hx hb dX12_image_25 rfl (lv_at hl 1 rfl) ?_
      refine lv_aload_n hx hb dX12_image_26 rfl (lv_at hl 0 rfl) ?_
      refine va_get (D := (dC, dI)) (ci := 12) (v := .int (-1)) (C := RX12) (T := TX12) (N := 38) hx hb hts iX12 hown hK hP 0 rfl rfl 21 (by decide) (hts _ tw_1146) (fun _ h9 => h9) rfl dX12_image_27 ?_
      refine va_iast hx hb hK hP hD hS 3 2 rfl rfl (show vp_in (nI 0) 4 from (by decide : ¬ ((nI 0 : Int32) < 0 ∨ 4 ≤ (nI 0 : Int32).toNatClampNeg))) dX12_image_30 (fun H locs hP hD hS => ?_)
      have hP : va_P (dC, dI) vwCl [(h0, .inr (12, [.ref m_tape, .int 0, .int 0, .ref m_sign, .ref m_length, .ref m_clause, .ref m_clauses, .ref m_read, .int 0, .int 0, .int 0, .int 0, .int 0, .int 0, .int 0, .ref m_open, .int 0, .ref m_stack, .int 0, .ref m_word, .ref m_said, .int (-1), .int 0, .ref m_vote, .int 0, .ref m_wasSaid, .int 0, .ref m_kept, .ref m_wanted, .ref m_chosenBy, .ref m_gone, .ref m_isFit, .ref m_bishopThen, .long 0, .ref m_images, .ref m_imageForce, .ref m_imageX, .ref m_isMade])), (m_said, .inl (mk_said, 306, .inl (fun _ => 0))), (m_images, .inl (mk_images, 1224, .inl (fun _ => 0))), (m_imageForce, .inl (mk_imageForce, 4, .inl (upd (fun _ => 0) (Int32.toNatClampNeg (nI 0)) (-1)))), (m_imageX, .inl (mk_imageX, 4, .inl (fun _ => 0))), (m_isMade, .inl (mk_isMade, 4, .inl f_3))] H := hP
      have hD : va_D A [(h0, .inr (12, [.ref m_tape, .int 0, .int 0, .ref m_sign, .ref m_length, .ref m_clause, .ref m_clauses, .ref m_read, .int 0, .int 0, .int 0, .int 0, .int 0, .int 0, .int 0, .ref m_open, .int 0, .ref m_stack, .int 0, .ref m_word, .ref m_said, .int (-1), .int 0, .ref m_vote, .int 0, .ref m_wasSaid, .int 0, .ref m_kept, .ref m_wanted, .ref m_chosenBy, .ref m_gone, .ref m_isFit, .ref m_bishopThen, .long 0, .ref m_images, .ref m_imageForce, .ref m_imageX, .ref m_isMade])), (m_said, .inl (mk_said, 306, .inl (fun _ => 0))), (m_images, .inl (mk_images, 1224, .inl (fun _ => 0))), (m_imageForce, .inl (mk_imageForce, 4, .inl (upd (fun _ => 0) (Int32.toNatClampNeg (nI 0)) (-1)))), (m_imageX, .inl (mk_imageX, 4, .inl (fun _ => 0))), (m_isMade, .inl (mk_isMade, 4, .inl f_3))] := hD
      generalize upd (fun _ => 0) (Int32.toNatClampNeg (nI 0)) (-1) = f_4 at hP hD
      refine lv_aload_n hx hb dX12_image_31 rfl (lv_at hl 0 rfl) ?_
      refine va_get (D := (dC, dI)) (ci := 12) (v := .ref m_imageX) (C := RX12) (T := TX12) (N := 38) hx hb hts iX12 hown hK hP 0 rfl rfl 36 (by decide) (hts _ tw_1161) (fun _ h9 => h9) rfl dX12_image_32 ?_
      refine lv_iload_n hx hb dX12_image_35 rfl (lv_at hl 1 rfl) ?_
      refine lv_aload_n hx hb dX12_image_36 rfl (lv_at hl 0 rfl) ?_
      refine va_get (D := (dC, dI)) (ci := 12) (v := .int 0) (C := RX12) (T := TX12) (N := 38) hx hb hts iX12 hown hK hP 0 rfl rfl 22 (by decide) (hts _ tw_1147) (fun _ h9 => h9) rfl dX12_image_37 ?_
      refine va_iast hx hb hK hP hD hS 4 3 rfl rfl (show vp_in (nI 0) 4 from (by decide : ¬ ((nI 0 : Int32) < 0 ∨ 4 ≤ (nI 0 : Int32).toNatClampNeg))) dX12_image_40 (fun H locs hP hD hS => ?_)
      have hP : va_P (dC, dI) vwCl [(h0, .inr (12, [.ref m_tape, .int 0, .int 0, .ref m_sign, .ref m_length, .ref m_clause, .ref m_clauses, .ref m_read, .int 0, .int 0, .int 0, .int 0, .int 0, .int 0, .int 0, .ref m_open, .int 0, .ref m_stack, .int 0, .ref m_word, .ref m_said, .int (-1), .int 0, .ref m_vote, .int 0, .ref m_wasSaid, .int 0, .ref m_kept, .ref m_wanted, .ref m_chosenBy, .ref m_gone, .ref m_isFit, .ref m_bishopThen, .long 0, .ref m_images, .ref m_imageForce, .ref m_imageX, .ref m_isMade])), (m_said, .inl (mk_said, 306, .inl (fun _ => 0))), (m_images, .inl (mk_images, 1224, .inl (fun _ => 0))), (m_imageForce, .inl (mk_imageForce, 4, .inl f_4)), (m_imageX, .inl (mk_imageX, 4, .inl (upd (fun _ => 0) (Int32.toNatClampNeg (nI 0)) 0))), (m_isMade, .inl (mk_isMade, 4, .inl f_3))] H := hP
      have hD : va_D A [(h0, .inr (12, [.ref m_tape, .int 0, .int 0, .ref m_sign, .ref m_length, .ref m_clause, .ref m_clauses, .ref m_read, .int 0, .int 0, .int 0, .int 0, .int 0, .int 0, .int 0, .ref m_open, .int 0, .ref m_stack, .int 0, .ref m_word, .ref m_said, .int (-1), .int 0, .ref m_vote, .int 0, .ref m_wasSaid, .int 0, .ref m_kept, .ref m_wanted, .ref m_chosenBy, .ref m_gone, .ref m_isFit, .ref m_bishopThen, .long 0, .ref m_images, .ref m_imageForce, .ref m_imageX, .ref m_isMade])), (m_said, .inl (mk_said, 306, .inl (fun _ => 0))), (m_images, .inl (mk_images, 1224, .inl (fun _ => 0))), (m_imageForce, .inl (mk_imageForce, 4, .inl f_4)), (m_imageX, .inl (mk_imageX, 4, .inl (upd (fun _ => 0) (Int32.toNatClampNeg (nI 0)) 0))), (m_isMade, .inl (mk_isMade, 4, .inl f_3))] := hD
      generalize upd (fun _ => 0) (Int32.toNatClampNeg (nI 0)) 0 = f_5 at hP hD
      refine lv_iconst (v := 0) hx hb dX12_image_41 (by decide) ?_
      refine lv_istore_n (lv' := [(2, .int 0), (0, .ref h0), (1, .int (nI 0))]) hx hb dX12_image_42 rfl hl (by decide) rfl (fun ls hl => ?_)
      refine loopW (N := 306) (fun (i_7 : Nat) (g : (Nat → Int32)) H locs ls => va_P (dC, dI) vwCl [(h0, .inr (12, [.ref m_tape, .int 0, .int 0, .ref m_sign, .ref m_length, .ref m_clause, .ref m_clauses, .ref m_read, .int 0, .int 0, .int 0, .int 0, .int 0, .int 0, .int 0, .ref m_open, .int 0, .ref m_stack, .int 0, .ref m_word, .ref m_said, .int (-1), .int 0, .ref m_vote, .int 0, .ref m_wasSaid, .int 0, .ref m_kept, .ref m_wanted, .ref m_chosenBy, .ref m_gone, .ref m_isFit, .ref m_bishopThen, .long 0, .ref m_images, .ref m_imageForce, .ref m_imageX, .ref m_isMade])), (m_said, .inl (mk_said, 306, .inl (fun _ => 0))), (m_images, .inl (mk_images, 1224, .inl g)), (m_imageForce, .inl (mk_imageForce, 4, .inl f_4)), (m_imageX, .inl (mk_imageX, 4, .inl f_5)), (m_isMade, .inl (mk_isMade, 4, .inl f_3))] H ∧ va_D A [(h0, .inr (12, [.ref m_tape, .int 0, .int 0, .ref m_sign, .ref m_length, .ref m_clause, .ref m_clauses, .ref m_read, .int 0, .int 0, .int 0, .int 0, .int 0, .int 0, .int 0, .ref m_open, .int 0, .ref m_stack, .int 0, .ref m_word, .ref m_said, .int (-1), .int 0, .ref m_vote, .int 0, .ref m_wasSaid, .int 0, .ref m_kept, .ref m_wanted, .ref m_chosenBy, .ref m_gone, .ref m_isFit, .ref m_bishopThen, .long 0, .ref m_images, .ref m_imageForce, .ref m_imageX, .ref m_isMade])), (m_said, .inl (mk_said, 306, .inl (fun _ => 0))), (m_images, .inl (mk_images, 1224, .inl g)), (m_imageForce, .inl (mk_imageForce, 4, .inl f_4)), (m_imageX, .inl (mk_imageX, 4, .inl f_5)), (m_isMade, .inl (mk_isMade, 4, .inl f_3))] ∧ va_S A s.heap H locs ∧ lv_has ls 3 [(2, .int (nI i_7)), (0, .ref h0), (1, .int (nI 0))]) ?_ ((fun _ => 0)) _ _ _ ⟨hP, hD, hS, lv_sub hl [0, 1, 2] rfl⟩
      intro i_7 f_6 H locs ls hi_i_7 ⟨hP, hD, hS, hl⟩ ih_i_7
      refine lv_iload_n hx hb dX12_image_43 rfl (lv_at hl 0 rfl) ?_
      refine lv_sipush (v := 306) hx hb dX12_image_44 (by decide) ?_
      refine lv_icmp_ge (tgt := 74) hx hb dX12_image_47 (by decide) (fun c_8 => ?_) (fun c_8 => ?_)
      · refine lv_aload_n hx hb dX12_image_74 rfl (lv_at hl 1 rfl) ?_
        refine va_get (D := (dC, dI)) (ci := 12) (v := .ref m_said) (C := RX12) (T := TX12) (N := 38) hx hb hts iX12 hown hK hP 0 rfl rfl 20 (by decide) (hts _ tw_1145) (fun _ h9 => h9) rfl dX12_image_75 ?_
        refine lv_bipush (v := 10) hx hb dX12_image_78 (by decide) ?_
        refine va_iald hx hb hK hP 1 0 rfl rfl (show vp_in 10 306 from (by decide : ¬ ((10 : Int32) < 0 ∨ 306 ≤ (10 : Int32).toNatClampNeg))) dX12_image_80 ?_
        refine W.eq (g2 := F0 m 81 ls [.int 0]) rfl ?_
        refine W.widen (k := 0) (n := 0) (Nat.le_of_ble_eq_true rfl) (Nat.le_of_ble_eq_true rfl) ?_
        exact W.iret (v := 0) hx hb hr (fun t ht hW => ⟨⟨0, (), rfl, (by decide), trivial⟩, hS.F ht⟩) hS.2.2 dX12_image_81
      · have hlt_i_7 : i_7 < 306 := lt_of_nle (k := 306) ⟨rfl, by decide⟩ c_8 hi_i_7
        refine lv_aload_n hx hb dX12_image_50 rfl (lv_at hl 1 rfl) ?_
        refine va_get (D := (dC, dI)) (ci := 12) (v := .ref m_images) (C := RX12) (T := TX12) (N := 38) hx hb hts iX12 hown hK hP 0 rfl rfl 34 (by decide) (hts _ tw_1159) (fun _ h9 => h9) rfl dX12_image_51 ?_
        refine lv_sipush (v := 306) hx hb dX12_image_54 (by decide) ?_
        refine lv_iload_n hx hb dX12_image_57 rfl (lv_at hl 2 rfl) ?_
        refine lv_imul hx hb dX12_image_58 ?_
        refine lv_topi (fun x_10 ex_10 => ?_)
        obtain rfl : x_10 = 0 := ex_10.trans (by decide)
        refine lv_iload_n hx hb dX12_image_59 rfl (lv_at hl 0 rfl) ?_
        refine lv_iadd hx hb dX12_image_60 ?_
        refine lv_topi (fun x_11 ex_11 => ?_)
        obtain rfl : x_11 = nI (0 + i_7) := ex_11.trans (nI_add (0) (i_7))
        refine lv_aload_n hx hb dX12_image_61 rfl (lv_at hl 1 rfl) ?_
        refine va_get (D := (dC, dI)) (ci := 12) (v := .ref m_said) (C := RX12) (T := TX12) (N := 38) hx hb hts iX12 hown hK hP 0 rfl rfl 20 (by decide) (hts _ tw_1145) (fun _ h9 => h9) rfl dX12_image_62 ?_
        refine lv_iload_n hx hb dX12_image_65 rfl (lv_at hl 0 rfl) ?_
        refine va_iald hx hb hK hP 1 0 rfl rfl (vp_in_nI (by omega) (by decide)) dX12_image_66 ?_
        refine W.eq (g2 := F0 m 67 ls [.int 0, .int (nI (0 + i_7)), .ref m_images]) rfl ?_
        refine va_iast hx hb hK hP hD hS 2 1 rfl rfl (vp_in_nI (by omega) (by decide)) dX12_image_67 (fun H locs hP hD hS => ?_)
        have hP : va_P (dC, dI) vwCl [(h0, .inr (12, [.ref m_tape, .int 0, .int 0, .ref m_sign, .ref m_length, .ref m_clause, .ref m_clauses, .ref m_read, .int 0, .int 0, .int 0, .int 0, .int 0, .int 0, .int 0, .ref m_open, .int 0, .ref m_stack, .int 0, .ref m_word, .ref m_said, .int (-1), .int 0, .ref m_vote, .int 0, .ref m_wasSaid, .int 0, .ref m_kept, .ref m_wanted, .ref m_chosenBy, .ref m_gone, .ref m_isFit, .ref m_bishopThen, .long 0, .ref m_images, .ref m_imageForce, .ref m_imageX, .ref m_isMade])), (m_said, .inl (mk_said, 306, .inl (fun _ => 0))), (m_images, .inl (mk_images, 1224, .inl (upd f_6 (Int32.toNatClampNeg (nI (0 + i_7))) 0))), (m_imageForce, .inl (mk_imageForce, 4, .inl f_4)), (m_imageX, .inl (mk_imageX, 4, .inl f_5)), (m_isMade, .inl (mk_isMade, 4, .inl f_3))] H := hP
        have hD : va_D A [(h0, .inr (12, [.ref m_tape, .int 0, .int 0, .ref m_sign, .ref m_length, .ref m_clause, .ref m_clauses, .ref m_read, .int 0, .int 0, .int 0, .int 0, .int 0, .int 0, .int 0, .ref m_open, .int 0, .ref m_stack, .int 0, .ref m_word, .ref m_said, .int (-1), .int 0, .ref m_vote, .int 0, .ref m_wasSaid, .int 0, .ref m_kept, .ref m_wanted, .ref m_chosenBy, .ref m_gone, .ref m_isFit, .ref m_bishopThen, .long 0, .ref m_images, .ref m_imageForce, .ref m_imageX, .ref m_isMade])), (m_said, .inl (mk_said, 306, .inl (fun _ => 0))), (m_images, .inl (mk_images, 1224, .inl (upd f_6 (Int32.toNatClampNeg (nI (0 + i_7))) 0))), (m_imageForce, .inl (mk_imageForce, 4, .inl f_4)), (m_imageX, .inl (mk_imageX, 4, .inl f_5)), (m_isMade, .inl (mk_isMade, 4, .inl f_3))] := hD
        generalize upd f_6 (Int32.toNatClampNeg (nI (0 + i_7))) 0 = f_13 at hP hD
        refine lv_iinc (v := nI (i_7 + 1)) (lv' := [(2, .int (nI (i_7 + 1))), (0, .ref h0), (1, .int (nI 0))]) hx hb dX12_image_68 hl (k := 0) rfl (nI_1 _) (by decide) rfl (fun ls hl => ?_)
        refine lv_goto (tgt := 43) hx hb dX12_image_71 (by decide) ?_
        exact ih_i_7 f_13 _ _ _ hlt_i_7 ⟨hP, hD, hS, lv_sub hl [0, 1, 2] rfl⟩
    · refine lv_aload_n hx hb dX12_image_14 rfl (lv_at hl 0 rfl) ?_
      refine va_get (D := (dC, dI)) (ci := 12) (v := .ref m_isMade) (C := RX12) (T := TX12) (N := 38) hx hb hts iX12 hown hK hP 0 rfl rfl 37 (by decide) (hts _ tw_1162) (fun _ h9 => h9) rfl dX12_image_15 ?_
      refine lv_iload_n hx hb dX12_image_18 rfl (lv_at hl 1 rfl) ?_
      refine lv_iconst (v := 1) hx hb dX12_image_19 (by decide) ?_
      refine va_zast hx hb hK hP hD hS 5 4 rfl rfl (show vp_in (nI 1) 4 from (by decide : ¬ ((nI 1 : Int32) < 0 ∨ 4 ≤ (nI 1 : Int32).toNatClampNeg))) dX12_image_20 (fun H locs hP hD hS => ?_)
      have hP : va_P (dC, dI) vwCl [(h0, .inr (12, [.ref m_tape, .int 0, .int 0, .ref m_sign, .ref m_length, .ref m_clause, .ref m_clauses, .ref m_read, .int 0, .int 0, .int 0, .int 0, .int 0, .int 0, .int 0, .ref m_open, .int 0, .ref m_stack, .int 0, .ref m_word, .ref m_said, .int (-1), .int 0, .ref m_vote, .int 0, .ref m_wasSaid, .int 0, .ref m_kept, .ref m_wanted, .ref m_chosenBy, .ref m_gone, .ref m_isFit, .ref m_bishopThen, .long 0, .ref m_images, .ref m_imageForce, .ref m_imageX, .ref m_isMade])), (m_said, .inl (mk_said, 306, .inl (fun _ => 0))), (m_images, .inl (mk_images, 1224, .inl (fun _ => 0))), (m_imageForce, .inl (mk_imageForce, 4, .inl (fun _ => 0))), (m_imageX, .inl (mk_imageX, 4, .inl (fun _ => 0))), (m_isMade, .inl (mk_isMade, 4, .inl (upd (fun _ => 0) (Int32.toNatClampNeg (nI 1)) (vp_nar .boolean 1))))] H := hP
      have hD : va_D A [(h0, .inr (12, [.ref m_tape, .int 0, .int 0, .ref m_sign, .ref m_length, .ref m_clause, .ref m_clauses, .ref m_read, .int 0, .int 0, .int 0, .int 0, .int 0, .int 0, .int 0, .ref m_open, .int 0, .ref m_stack, .int 0, .ref m_word, .ref m_said, .int (-1), .int 0, .ref m_vote, .int 0, .ref m_wasSaid, .int 0, .ref m_kept, .ref m_wanted, .ref m_chosenBy, .ref m_gone, .ref m_isFit, .ref m_bishopThen, .long 0, .ref m_images, .ref m_imageForce, .ref m_imageX, .ref m_isMade])), (m_said, .inl (mk_said, 306, .inl (fun _ => 0))), (m_images, .inl (mk_images, 1224, .inl (fun _ => 0))), (m_imageForce, .inl (mk_imageForce, 4, .inl (fun _ => 0))), (m_imageX, .inl (mk_imageX, 4, .inl (fun _ => 0))), (m_isMade, .inl (mk_isMade, 4, .inl (upd (fun _ => 0) (Int32.toNatClampNeg (nI 1)) (vp_nar .boolean 1))))] := hD
      generalize upd (fun _ => 0) (Int32.toNatClampNeg (nI 1)) (vp_nar .boolean 1) = f_14 at hP hD
      refine lv_aload_n hx hb dX12_image_21 rfl (lv_at hl 0 rfl) ?_
      refine va_get (D := (dC, dI)) (ci := 12) (v := .ref m_imageForce) (C := RX12) (T := TX12) (N := 38) hx hb hts iX12 hown hK hP 0 rfl rfl 35 (by decide) (hts _ tw_1160) (fun _ h9 => h9) rfl dX12_image_22 ?_
      refine lv_iload_n hx hb dX12_image_25 rfl (lv_at hl 1 rfl) ?_
      refine lv_aload_n hx hb dX12_image_26 rfl (lv_at hl 0 rfl) ?_
      refine va_get (D := (dC, dI)) (ci := 12) (v := .int (-1)) (C := RX12) (T := TX12) (N := 38) hx hb hts iX12 hown hK hP 0 rfl rfl 21 (by decide) (hts _ tw_1146) (fun _ h9 => h9) rfl dX12_image_27 ?_
      refine va_iast hx hb hK hP hD hS 3 2 rfl rfl (show vp_in (nI 1) 4 from (by decide : ¬ ((nI 1 : Int32) < 0 ∨ 4 ≤ (nI 1 : Int32).toNatClampNeg))) dX12_image_30 (fun H locs hP hD hS => ?_)
      have hP : va_P (dC, dI) vwCl [(h0, .inr (12, [.ref m_tape, .int 0, .int 0, .ref m_sign, .ref m_length, .ref m_clause, .ref m_clauses, .ref m_read, .int 0, .int 0, .int 0, .int 0, .int 0, .int 0, .int 0, .ref m_open, .int 0, .ref m_stack, .int 0, .ref m_word, .ref m_said, .int (-1), .int 0, .ref m_vote, .int 0, .ref m_wasSaid, .int 0, .ref m_kept, .ref m_wanted, .ref m_chosenBy, .ref m_gone, .ref m_isFit, .ref m_bishopThen, .long 0, .ref m_images, .ref m_imageForce, .ref m_imageX, .ref m_isMade])), (m_said, .inl (mk_said, 306, .inl (fun _ => 0))), (m_images, .inl (mk_images, 1224, .inl (fun _ => 0))), (m_imageForce, .inl (mk_imageForce, 4, .inl (upd (fun _ => 0) (Int32.toNatClampNeg (nI 1)) (-1)))), (m_imageX, .inl (mk_imageX, 4, .inl (fun _ => 0))), (m_isMade, .inl (mk_isMade, 4, .inl f_14))] H := hP
      have hD : va_D A [(h0, .inr (12, [.ref m_tape, .int 0, .int 0, .ref m_sign, .ref m_length, .ref m_clause, .ref m_clauses, .ref m_read, .int 0, .int 0, .int 0, .int 0, .int 0, .int 0, .int 0, .ref m_open, .int 0, .ref m_stack, .int 0, .ref m_word, .ref m_said, .int (-1), .int 0, .ref m_vote, .int 0, .ref m_wasSaid, .int 0, .ref m_kept, .ref m_wanted, .ref m_chosenBy, .ref m_gone, .ref m_isFit, .ref m_bishopThen, .long 0, .ref m_images, .ref m_imageForce, .ref m_imageX, .ref m_isMade])), (m_said, .inl (mk_said, 306, .inl (fun _ => 0))), (m_images, .inl (mk_images, 1224, .inl (fun _ => 0))), (m_imageForce, .inl (mk_imageForce, 4, .inl (upd (fun _ => 0) (Int32.toNatClampNeg (nI 1)) (-1)))), (m_imageX, .inl (mk_imageX, 4, .inl (fun _ => 0))), (m_isMade, .inl (mk_isMade, 4, .inl f_14))] := hD
      generalize upd (fun _ => 0) (Int32.toNatClampNeg (nI 1)) (-1) = f_15 at hP hD
      refine lv_aload_n hx hb dX12_image_31 rfl (lv_at hl 0 rfl) ?_
      refine va_get (D := (dC, dI)) (ci := 12) (v := .ref m_imageX) (C := RX12) (T := TX12) (N := 38) hx hb hts iX12 hown hK hP 0 rfl rfl 36 (by decide) (hts _ tw_1161) (fun _ h9 => h9) rfl dX12_image_32 ?_
      refine lv_iload_n hx hb dX12_image_35 rfl (lv_at hl 1 rfl) ?_
      refine lv_aload_n hx hb dX12_image_36 rfl (lv_at hl 0 rfl) ?_
      refine va_get (D := (dC, dI)) (ci := 12) (v := .int 0) (C := RX12) (T := TX12) (N := 38) hx hb hts iX12 hown hK hP 0 rfl rfl 22 (by decide) (hts _ tw_1147) (fun _ h9 => h9) rfl dX12_image_37 ?_
      refine va_iast hx hb hK hP hD hS 4 3 rfl rfl (show vp_in (nI 1) 4 from (by decide : ¬ ((nI 1 : Int32) < 0 ∨ 4 ≤ (nI 1 : Int32).toNatClampNeg))) dX12_image_40 (fun H locs hP hD hS => ?_)
      have hP : va_P (dC, dI) vwCl [(h0, .inr (12, [.ref m_tape, .int 0, .int 0, .ref m_sign, .ref m_length, .ref m_clause, .ref m_clauses, .ref m_read, .int 0, .int 0, .int 0, .int 0, .int 0, .int 0, .int 0, .ref m_open, .int 0, .ref m_stack, .int 0, .ref m_word, .ref m_said, .int (-1), .int 0, .ref m_vote, .int 0, .ref m_wasSaid, .int 0, .ref m_kept, .ref m_wanted, .ref m_chosenBy, .ref m_gone, .ref m_isFit, .ref m_bishopThen, .long 0, .ref m_images, .ref m_imageForce, .ref m_imageX, .ref m_isMade])), (m_said, .inl (mk_said, 306, .inl (fun _ => 0))), (m_images, .inl (mk_images, 1224, .inl (fun _ => 0))), (m_imageForce, .inl (mk_imageForce, 4, .inl f_15)), (m_imageX, .inl (mk_imageX, 4, .inl (upd (fun _ => 0) (Int32.toNatClampNeg (nI 1)) 0))), (m_isMade, .inl (mk_isMade, 4, .inl f_14))] H := hP
      have hD : va_D A [(h0, .inr (12, [.ref m_tape, .int 0, .int 0, .ref m_sign, .ref m_length, .ref m_clause, .ref m_clauses, .ref m_read, .int 0, .int 0, .int 0, .int 0, .int 0, .int 0, .int 0, .ref m_open, .int 0, .ref m_stack, .int 0, .ref m_word, .ref m_said, .int (-1), .int 0, .ref m_vote, .int 0, .ref m_wasSaid, .int 0, .ref m_kept, .ref m_wanted, .ref m_chosenBy, .ref m_gone, .ref m_isFit, .ref m_bishopThen, .long 0, .ref m_images, .ref m_imageForce, .ref m_imageX, .ref m_isMade])), (m_said, .inl (mk_said, 306, .inl (fun _ => 0))), (m_images, .inl (mk_images, 1224, .inl (fun _ => 0))), (m_imageForce, .inl (mk_imageForce, 4, .inl f_15)), (m_imageX, .inl (mk_imageX, 4, .inl (upd (fun _ => 0) (Int32.toNatClampNeg (nI 1)) 0))), (m_isMade, .inl (mk_isMade, 4, .inl f_14))] := hD
      generalize upd (fun _ => 0) (Int32.toNatClampNeg (nI 1)) 0 = f_16 at hP hD
      refine lv_iconst (v := 0) hx hb dX12_image_41 (by decide) ?_
      refine lv_istore_n (lv' := [(2, .int 0), (0, .ref h0), (1, .int (nI 1))]) hx hb dX12_image_42 rfl hl (by decide) rfl (fun ls hl => ?_)
      refine loopW (N := 306) (fun (i_18 : Nat) (g : (Nat → Int32)) H locs ls => va_P (dC, dI) vwCl [(h0, .inr (12, [.ref m_tape, .int 0, .int 0, .ref m_sign, .ref m_length, .ref m_clause, .ref m_clauses, .ref m_read, .int 0, .int 0, .int 0, .int 0, .int 0, .int 0, .int 0, .ref m_open, .int 0, .ref m_stack, .int 0, .ref m_word, .ref m_said, .int (-1), .int 0, .ref m_vote, .int 0, .ref m_wasSaid, .int 0, .ref m_kept, .ref m_wanted, .ref m_chosenBy, .ref m_gone, .ref m_isFit, .ref m_bishopThen, .long 0, .ref m_images, .ref m_imageForce, .ref m_imageX, .ref m_isMade])), (m_said, .inl (mk_said, 306, .inl (fun _ => 0))), (m_images, .inl (mk_images, 1224, .inl g)), (m_imageForce, .inl (mk_imageForce, 4, .inl f_15)), (m_imageX, .inl (mk_imageX, 4, .inl f_16)), (m_isMade, .inl (mk_isMade, 4, .inl f_14))] H ∧ va_D A [(h0, .inr (12, [.ref m_tape, .int 0, .int 0, .ref m_sign, .ref m_length, .ref m_clause, .ref m_clauses, .ref m_read, .int 0, .int 0, .int 0, .int 0, .int 0, .int 0, .int 0, .ref m_open, .int 0, .ref m_stack, .int 0, .ref m_word, .ref m_said, .int (-1), .int 0, .ref m_vote, .int 0, .ref m_wasSaid, .int 0, .ref m_kept, .ref m_wanted, .ref m_chosenBy, .ref m_gone, .ref m_isFit, .ref m_bishopThen, .long 0, .ref m_images, .ref m_imageForce, .ref m_imageX, .ref m_isMade])), (m_said, .inl (mk_said, 306, .inl (fun _ => 0))), (m_images, .inl (mk_images, 1224, .inl g)), (m_imageForce, .inl (mk_imageForce, 4, .inl f_15)), (m_imageX, .inl (mk_imageX, 4, .inl f_16)), (m_isMade, .inl (mk_isMade, 4, .inl f_14))] ∧ va_S A s.heap H locs ∧ lv_has ls 3 [(2, .int (nI i_18)), (0, .ref h0), (1, .int (nI 1))]) ?_ ((fun _ => 0)) _ _ _ ⟨hP, hD, hS, lv_sub hl [0, 1, 2] rfl⟩
      intro i_18 f_17 H locs ls hi_i_18 ⟨hP, hD, hS, hl⟩ ih_i_18
      refine lv_iload_n hx hb dX12_image_43 rfl (lv_at hl 0 rfl) ?_
      refine lv_sipush (v := 306) hx hb dX12_image_44 (by decide) ?_
      refine lv_icmp_ge (tgt := 74) hx hb dX12_image_47 (by decide) (fun c_19 => ?_) (fun c_19 => ?_)
      · refine lv_aload_n hx hb dX12_image_74 rfl (lv_at hl 1 rfl) ?_
        refine va_get (D := (dC, dI)) (ci := 12) (v := .ref m_said) (C := RX12) (T := TX12) (N := 38) hx hb hts iX12 hown hK hP 0 rfl rfl 20 (by decide) (hts _ tw_1145) (fun _ h9 => h9) rfl dX12_image_75 ?_
        refine lv_bipush (v := 10) hx hb dX12_image_78 (by decide) ?_
        refine va_iald hx hb hK hP 1 0 rfl rfl (show vp_in 10 306 from (by decide : ¬ ((10 : Int32) < 0 ∨ 306 ≤ (10 : Int32).toNatClampNeg))) dX12_image_80 ?_
        refine W.eq (g2 := F0 m 81 ls [.int 0]) rfl ?_
        refine W.widen (k := 0) (n := 0) (Nat.le_of_ble_eq_true rfl) (Nat.le_of_ble_eq_true rfl) ?_
        exact W.iret (v := 0) hx hb hr (fun t ht hW => ⟨⟨0, (), rfl, (by decide), trivial⟩, hS.F ht⟩) hS.2.2 dX12_image_81
      · have hlt_i_18 : i_18 < 306 := lt_of_nle (k := 306) ⟨rfl, by decide⟩ c_19 hi_i_18
        refine lv_aload_n hx hb dX12_image_50 rfl (lv_at hl 1 rfl) ?_
        refine va_get (D := (dC, dI)) (ci := 12) (v := .ref m_images) (C := RX12) (T := TX12) (N := 38) hx hb hts iX12 hown hK hP 0 rfl rfl 34 (by decide) (hts _ tw_1159) (fun _ h9 => h9) rfl dX12_image_51 ?_
        refine lv_sipush (v := 306) hx hb dX12_image_54 (by decide) ?_
        refine lv_iload_n hx hb dX12_image_57 rfl (lv_at hl 2 rfl) ?_
        refine lv_imul hx hb dX12_image_58 ?_
        refine lv_topi (fun x_21 ex_21 => ?_)
        obtain rfl : x_21 = 306 := ex_21.trans (by decide)
        refine lv_iload_n hx hb dX12_image_59 rfl (lv_at hl 0 rfl) ?_
        refine lv_iadd hx hb dX12_image_60 ?_
        refine lv_topi (fun x_22 ex_22 => ?_)
        obtain rfl : x_22 = nI (306 + i_18) := ex_22.trans (nI_add (306) (i_18))
        refine lv_aload_n hx hb dX12_image_61 rfl (lv_at hl 1 rfl) ?_
        refine va_get (D := (dC, dI)) (ci := 12) (v := .ref m_said) (C := RX12) (T := TX12) (N := 38) hx hb hts iX12 hown hK hP 0 rfl rfl 20 (by decide) (hts _ tw_1145) (fun _ h9 => h9) rfl dX12_image_62 ?_
        refine lv_iload_n hx hb dX12_image_65 rfl (lv_at hl 0 rfl) ?_
        refine va_iald hx hb hK hP 1 0 rfl rfl (vp_in_nI (by omega) (by decide)) dX12_image_66 ?_
        refine W.eq (g2 := F0 m 67 ls [.int 0, .int (nI (306 + i_18)), .ref m_images]) rfl ?_
        refine va_iast hx hb hK hP hD hS 2 1 rfl rfl (vp_in_nI (by omega) (by decide)) dX12_image_67 (fun H locs hP hD hS => ?_)
        have hP : va_P (dC, dI) vwCl [(h0, .inr (12, [.ref m_tape, .int 0, .int 0, .ref m_sign, .ref m_length, .ref m_clause, .ref m_clauses, .ref m_read, .int 0, .int 0, .int 0, .int 0, .int 0, .int 0, .int 0, .ref m_open, .int 0, .ref m_stack, .int 0, .ref m_word, .ref m_said, .int (-1), .int 0, .ref m_vote, .int 0, .ref m_wasSaid, .int 0, .ref m_kept, .ref m_wanted, .ref m_chosenBy, .ref m_gone, .ref m_isFit, .ref m_bishopThen, .long 0, .ref m_images, .ref m_imageForce, .ref m_imageX, .ref m_isMade])), (m_said, .inl (mk_said, 306, .inl (fun _ => 0))), (m_images, .inl (mk_images, 1224, .inl (upd f_17 (Int32.toNatClampNeg (nI (306 + i_18))) 0))), (m_imageForce, .inl (mk_imageForce, 4, .inl f_15)), (m_imageX, .inl (mk_imageX, 4, .inl f_16)), (m_isMade, .inl (mk_isMade, 4, .inl f_14))] H := hP
        have hD : va_D A [(h0, .inr (12, [.ref m_tape, .int 0, .int 0, .ref m_sign, .ref m_length, .ref m_clause, .ref m_clauses, .ref m_read, .int 0, .int 0, .int 0, .int 0, .int 0, .int 0, .int 0, .ref m_open, .int 0, .ref m_stack, .int 0, .ref m_word, .ref m_said, .int (-1), .int 0, .ref m_vote, .int 0, .ref m_wasSaid, .int 0, .ref m_kept, .ref m_wanted, .ref m_chosenBy, .ref m_gone, .ref m_isFit, .ref m_bishopThen, .long 0, .ref m_images, .ref m_imageForce, .ref m_imageX, .ref m_isMade])), (m_said, .inl (mk_said, 306, .inl (fun _ => 0))), (m_images, .inl (mk_images, 1224, .inl (upd f_17 (Int32.toNatClampNeg (nI (306 + i_18))) 0))), (m_imageForce, .inl (mk_imageForce, 4, .inl f_15)), (m_imageX, .inl (mk_imageX, 4, .inl f_16)), (m_isMade, .inl (mk_isMade, 4, .inl f_14))] := hD
        generalize upd f_17 (Int32.toNatClampNeg (nI (306 + i_18))) 0 = f_24 at hP hD
        refine lv_iinc (v := nI (i_18 + 1)) (lv' := [(2, .int (nI (i_18 + 1))), (0, .ref h0), (1, .int (nI 1))]) hx hb dX12_image_68 hl (k := 0) rfl (nI_1 _) (by decide) rfl (fun ls hl => ?_)
        refine lv_goto (tgt := 43) hx hb dX12_image_71 (by decide) ?_
        exact ih_i_18 f_24 _ _ _ hlt_i_18 ⟨hP, hD, hS, lv_sub hl [0, 1, 2] rfl⟩
    · refine lv_aload_n hx hb dX12_image_14 rfl (lv_at hl 0 rfl) ?_
      refine va_get (D := (dC, dI)) (ci := 12) (v := .ref m_isMade) (C := RX12) (T := TX12) (N := 38) hx hb hts iX12 hown hK hP 0 rfl rfl 37 (by decide) (hts _ tw_1162) (fun _ h9 => h9) rfl dX12_image_15 ?_
      refine lv_iload_n hx hb dX12_image_18 rfl (lv_at hl 1 rfl) ?_
      refine lv_iconst (v := 1) hx hb dX12_image_19 (by decide) ?_
      refine va_zast hx hb hK hP hD hS 5 4 rfl rfl (show vp_in (nI 2) 4 from (by decide : ¬ ((nI 2 : Int32) < 0 ∨ 4 ≤ (nI 2 : Int32).toNatClampNeg))) dX12_image_20 (fun H locs hP hD hS => ?_)
      have hP : va_P (dC, dI) vwCl [(h0, .inr (12, [.ref m_tape, .int 0, .int 0, .ref m_sign, .ref m_length, .ref m_clause, .ref m_clauses, .ref m_read, .int 0, .int 0, .int 0, .int 0, .int 0, .int 0, .int 0, .ref m_open, .int 0, .ref m_stack, .int 0, .ref m_word, .ref m_said, .int (-1), .int 0, .ref m_vote, .int 0, .ref m_wasSaid, .int 0, .ref m_kept, .ref m_wanted, .ref m_chosenBy, .ref m_gone, .ref m_isFit, .ref m_bishopThen, .long 0, .ref m_images, .ref m_imageForce, .ref m_imageX, .ref m_isMade])), (m_said, .inl (mk_said, 306, .inl (fun _ => 0))), (m_images, .inl (mk_images, 1224, .inl (fun _ => 0))), (m_imageForce, .inl (mk_imageForce, 4, .inl (fun _ => 0))), (m_imageX, .inl (mk_imageX, 4, .inl (fun _ => 0))), (m_isMade, .inl (mk_isMade, 4, .inl (upd (fun _ => 0) (Int32.toNatClampNeg (nI 2)) (vp_nar .boolean 1))))] H := hP
      have hD : va_D A [(h0, .inr (12, [.ref m_tape, .int 0, .int 0, .ref m_sign, .ref m_length, .ref m_clause, .ref m_clauses, .ref m_read, .int 0, .int 0, .int 0, .int 0, .int 0, .int 0, .int 0, .ref m_open, .int 0, .ref m_stack, .int 0, .ref m_word, .ref m_said, .int (-1), .int 0, .ref m_vote, .int 0, .ref m_wasSaid, .int 0, .ref m_kept, .ref m_wanted, .ref m_chosenBy, .ref m_gone, .ref m_isFit, .ref m_bishopThen, .long 0, .ref m_images, .ref m_imageForce, .ref m_imageX, .ref m_isMade])), (m_said, .inl (mk_said, 306, .inl (fun _ => 0))), (m_images, .inl (mk_images, 1224, .inl (fun _ => 0))), (m_imageForce, .inl (mk_imageForce, 4, .inl (fun _ => 0))), (m_imageX, .inl (mk_imageX, 4, .inl (fun _ => 0))), (m_isMade, .inl (mk_isMade, 4, .inl (upd (fun _ => 0) (Int32.toNatClampNeg (nI 2)) (vp_nar .boolean 1))))] := hD
      generalize upd (fun _ => 0) (Int32.toNatClampNeg (nI 2)) (vp_nar .boolean 1) = f_25 at hP hD
      refine lv_aload_n hx hb dX12_image_21 rfl (lv_at hl 0 rfl) ?_
      refine va_get (D := (dC, dI)) (ci := 12) (v := .ref m_imageForce) (C := RX12) (T := TX12) (N := 38) hx hb hts iX12 hown hK hP 0 rfl rfl 35 (by decide) (hts _ tw_1160) (fun _ h9 => h9) rfl dX12_image_22 ?_
      refine lv_iload_n hx hb dX12_image_25 rfl (lv_at hl 1 rfl) ?_
      refine lv_aload_n hx hb dX12_image_26 rfl (lv_at hl 0 rfl) ?_
      refine va_get (D := (dC, dI)) (ci := 12) (v := .int (-1)) (C := RX12) (T := TX12) (N := 38) hx hb hts iX12 hown hK hP 0 rfl rfl 21 (by decide) (hts _ tw_1146) (fun _ h9 => h9) rfl dX12_image_27 ?_
      refine va_iast hx hb hK hP hD hS 3 2 rfl rfl (show vp_in (nI 2) 4 from (by decide : ¬ ((nI 2 : Int32) < 0 ∨ 4 ≤ (nI 2 : Int32).toNatClampNeg))) dX12_image_30 (fun H locs hP hD hS => ?_)
      have hP : va_P (dC, dI) vwCl [(h0, .inr (12, [.ref m_tape, .int 0, .int 0, .ref m_sign, .ref m_length, .ref m_clause, .ref m_clauses, .ref m_read, .int 0, .int 0, .int 0, .int 0, .int 0, .int 0, .int 0, .ref m_open, .int 0, .ref m_stack, .int 0, .ref m_word, .ref m_said, .int (-1), .int 0, .ref m_vote, .int 0, .ref m_wasSaid, .int 0, .ref m_kept, .ref m_wanted, .ref m_chosenBy, .ref m_gone, .ref m_isFit, .ref m_bishopThen, .long 0, .ref m_images, .ref m_imageForce, .ref m_imageX, .ref m_isMade])), (m_said, .inl (mk_said, 306, .inl (fun _ => 0))), (m_images, .inl (mk_images, 1224, .inl (fun _ => 0))), (m_imageForce, .inl (mk_imageForce, 4, .inl (upd (fun _ => 0) (Int32.toNatClampNeg (nI 2)) (-1)))), (m_imageX, .inl (mk_imageX, 4, .inl (fun _ => 0))), (m_isMade, .inl (mk_isMade, 4, .inl f_25))] H := hP
      have hD : va_D A [(h0, .inr (12, [.ref m_tape, .int 0, .int 0, .ref m_sign, .ref m_length, .ref m_clause, .ref m_clauses, .ref m_read, .int 0, .int 0, .int 0, .int 0, .int 0, .int 0, .int 0, .ref m_open, .int 0, .ref m_stack, .int 0, .ref m_word, .ref m_said, .int (-1), .int 0, .ref m_vote, .int 0, .ref m_wasSaid, .int 0, .ref m_kept, .ref m_wanted, .ref m_chosenBy, .ref m_gone, .ref m_isFit, .ref m_bishopThen, .long 0, .ref m_images, .ref m_imageForce, .ref m_imageX, .ref m_isMade])), (m_said, .inl (mk_said, 306, .inl (fun _ => 0))), (m_images, .inl (mk_images, 1224, .inl (fun _ => 0))), (m_imageForce, .inl (mk_imageForce, 4, .inl (upd (fun _ => 0) (Int32.toNatClampNeg (nI 2)) (-1)))), (m_imageX, .inl (mk_imageX, 4, .inl (fun _ => 0))), (m_isMade, .inl (mk_isMade, 4, .inl f_25))] := hD
      generalize upd (fun _ => 0) (Int32.toNatClampNeg (nI 2)) (-1) = f_26 at hP hD
      refine lv_aload_n hx hb dX12_image_31 rfl (lv_at hl 0 rfl) ?_
      refine va_get (D := (dC, dI)) (ci := 12) (v := .ref m_imageX) (C := RX12) (T := TX12) (N := 38) hx hb hts iX12 hown hK hP 0 rfl rfl 36 (by decide) (hts _ tw_1161) (fun _ h9 => h9) rfl dX12_image_32 ?_
      refine lv_iload_n hx hb dX12_image_35 rfl (lv_at hl 1 rfl) ?_
      refine lv_aload_n hx hb dX12_image_36 rfl (lv_at hl 0 rfl) ?_
      refine va_get (D := (dC, dI)) (ci := 12) (v := .int 0) (C := RX12) (T := TX12) (N := 38) hx hb hts iX12 hown hK hP 0 rfl rfl 22 (by decide) (hts _ tw_1147) (fun _ h9 => h9) rfl dX12_image_37 ?_
      refine va_iast hx hb hK hP hD hS 4 3 rfl rfl (show vp_in (nI 2) 4 from (by decide : ¬ ((nI 2 : Int32) < 0 ∨ 4 ≤ (nI 2 : Int32).toNatClampNeg))) dX12_image_40 (fun H locs hP hD hS => ?_)
      have hP : va_P (dC, dI) vwCl [(h0, .inr (12, [.ref m_tape, .int 0, .int 0, .ref m_sign, .ref m_length, .ref m_clause, .ref m_clauses, .ref m_read, .int 0, .int 0, .int 0, .int 0, .int 0, .int 0, .int 0, .ref m_open, .int 0, .ref m_stack, .int 0, .ref m_word, .ref m_said, .int (-1), .int 0, .ref m_vote, .int 0, .ref m_wasSaid, .int 0, .ref m_kept, .ref m_wanted, .ref m_chosenBy, .ref m_gone, .ref m_isFit, .ref m_bishopThen, .long 0, .ref m_images, .ref m_imageForce, .ref m_imageX, .ref m_isMade])), (m_said, .inl (mk_said, 306, .inl (fun _ => 0))), (m_images, .inl (mk_images, 1224, .inl (fun _ => 0))), (m_imageForce, .inl (mk_imageForce, 4, .inl f_26)), (m_imageX, .inl (mk_imageX, 4, .inl (upd (fun _ => 0) (Int32.toNatClampNeg (nI 2)) 0))), (m_isMade, .inl (mk_isMade, 4, .inl f_25))] H := hP
      have hD : va_D A [(h0, .inr (12, [.ref m_tape, .int 0, .int 0, .ref m_sign, .ref m_length, .ref m_clause, .ref m_clauses, .ref m_read, .int 0, .int 0, .int 0, .int 0, .int 0, .int 0, .int 0, .ref m_open, .int 0, .ref m_stack, .int 0, .ref m_word, .ref m_said, .int (-1), .int 0, .ref m_vote, .int 0, .ref m_wasSaid, .int 0, .ref m_kept, .ref m_wanted, .ref m_chosenBy, .ref m_gone, .ref m_isFit, .ref m_bishopThen, .long 0, .ref m_images, .ref m_imageForce, .ref m_imageX, .ref m_isMade])), (m_said, .inl (mk_said, 306, .inl (fun _ => 0))), (m_images, .inl (mk_images, 1224, .inl (fun _ => 0))), (m_imageForce, .inl (mk_imageForce, 4, .inl f_26)), (m_imageX, .inl (mk_imageX, 4, .inl (upd (fun _ => 0) (Int32.toNatClampNeg (nI 2)) 0))), (m_isMade, .inl (mk_isMade, 4, .inl f_25))] := hD
      generalize upd (fun _ => 0) (Int32.toNatClampNeg (nI 2)) 0 = f_27 at hP hD
      refine lv_iconst (v := 0) hx hb dX12_image_41 (by decide) ?_
      refine lv_istore_n (lv' := [(2, .int 0), (0, .ref h0), (1, .int (nI 2))]) hx hb dX12_image_42 rfl hl (by decide) rfl (fun ls hl => ?_)
      refine loopW (N := 306) (fun (i_29 : Nat) (g : (Nat → Int32)) H locs ls => va_P (dC, dI) vwCl [(h0, .inr (12, [.ref m_tape, .int 0, .int 0, .ref m_sign, .ref m_length, .ref m_clause, .ref m_clauses, .ref m_read, .int 0, .int 0, .int 0, .int 0, .int 0, .int 0, .int 0, .ref m_open, .int 0, .ref m_stack, .int 0, .ref m_word, .ref m_said, .int (-1), .int 0, .ref m_vote, .int 0, .ref m_wasSaid, .int 0, .ref m_kept, .ref m_wanted, .ref m_chosenBy, .ref m_gone, .ref m_isFit, .ref m_bishopThen, .long 0, .ref m_images, .ref m_imageForce, .ref m_imageX, .ref m_isMade])), (m_said, .inl (mk_said, 306, .inl (fun _ => 0))), (m_images, .inl (mk_images, 1224, .inl g)), (m_imageForce, .inl (mk_imageForce, 4, .inl f_26)), (m_imageX, .inl (mk_imageX, 4, .inl f_27)), (m_isMade, .inl (mk_isMade, 4, .inl f_25))] H ∧ va_D A [(h0, .inr (12, [.ref m_tape, .int 0, .int 0, .ref m_sign, .ref m_length, .ref m_clause, .ref m_clauses, .ref m_read, .int 0, .int 0, .int 0, .int 0, .int 0, .int 0, .int 0, .ref m_open, .int 0, .ref m_stack, .int 0, .ref m_word, .ref m_said, .int (-1), .int 0, .ref m_vote, .int 0, .ref m_wasSaid, .int 0, .ref m_kept, .ref m_wanted, .ref m_chosenBy, .ref m_gone, .ref m_isFit, .ref m_bishopThen, .long 0, .ref m_images, .ref m_imageForce, .ref m_imageX, .ref m_isMade])), (m_said, .inl (mk_said, 306, .inl (fun _ => 0))), (m_images, .inl (mk_images, 1224, .inl g)), (m_imageForce, .inl (mk_imageForce, 4, .inl f_26)), (m_imageX, .inl (mk_imageX, 4, .inl f_27)), (m_isMade, .inl (mk_isMade, 4, .inl f_25))] ∧ va_S A s.heap H locs ∧ lv_has ls 3 [(2, .int (nI i_29)), (0, .ref h0), (1, .int (nI 2))]) ?_ ((fun _ => 0)) _ _ _ ⟨hP, hD, hS, lv_sub hl [0, 1, 2] rfl⟩
      intro i_29 f_28 H locs ls hi_i_29 ⟨hP, hD, hS, hl⟩ ih_i_29
      refine lv_iload_n hx hb dX12_image_43 rfl (lv_at hl 0 rfl) ?_
      refine lv_sipush (v := 306) hx hb dX12_image_44 (by decide) ?_
      refine lv_icmp_ge (tgt := 74) hx hb dX12_image_47 (by decide) (fun c_30 => ?_) (fun c_30 => ?_)
      · refine lv_aload_n hx hb dX12_image_74 rfl (lv_at hl 1 rfl) ?_
        refine va_get (D := (dC, dI)) (ci := 12) (v := .ref m_said) (C := RX12) (T := TX12) (N := 38) hx hb hts iX12 hown hK hP 0 rfl rfl 20 (by decide) (hts _ tw_1145) (fun _ h9 => h9) rfl dX12_image_75 ?_
        refine lv_bipush (v := 10) hx hb dX12_image_78 (by decide) ?_
        refine va_iald hx hb hK hP 1 0 rfl rfl (show vp_in 10 306 from (by decide : ¬ ((10 : Int32) < 0 ∨ 306 ≤ (10 : Int32).toNatClampNeg))) dX12_image_80 ?_
        refine W.eq (g2 := F0 m 81 ls [.int 0]) rfl ?_
        refine W.widen (k := 0) (n := 0) (Nat.le_of_ble_eq_true rfl) (Nat.le_of_ble_eq_true rfl) ?_
        exact W.iret (v := 0) hx hb hr (fun t ht hW => ⟨⟨0, (), rfl, (by decide), trivial⟩, hS.F ht⟩) hS.2.2 dX12_image_81
      · have hlt_i_29 : i_29 < 306 := lt_of_nle (k := 306) ⟨rfl, by decide⟩ c_30 hi_i_29
        refine lv_aload_n hx hb dX12_image_50 rfl (lv_at hl 1 rfl) ?_
        refine va_get (D := (dC, dI)) (ci := 12) (v := .ref m_images) (C := RX12) (T := TX12) (N := 38) hx hb hts iX12 hown hK hP 0 rfl rfl 34 (by decide) (hts _ tw_1159) (fun _ h9 => h9) rfl dX12_image_51 ?_
        refine lv_sipush (v := 306) hx hb dX12_image_54 (by decide) ?_
        refine lv_iload_n hx hb dX12_image_57 rfl (lv_at hl 2 rfl) ?_
        refine lv_imul hx hb dX12_image_58 ?_
        refine lv_topi (fun x_32 ex_32 => ?_)
        obtain rfl : x_32 = 612 := ex_32.trans (by decide)
        refine lv_iload_n hx hb dX12_image_59 rfl (lv_at hl 0 rfl) ?_
        refine lv_iadd hx hb dX12_image_60 ?_
        refine lv_topi (fun x_33 ex_33 => ?_)
        obtain rfl : x_33 = nI (612 + i_29) := ex_33.trans (nI_add (612) (i_29))
        refine lv_aload_n hx hb dX12_image_61 rfl (lv_at hl 1 rfl) ?_
        refine va_get (D := (dC, dI)) (ci := 12) (v := .ref m_said) (C := RX12) (T := TX12) (N := 38) hx hb hts iX12 hown hK hP 0 rfl rfl 20 (by decide) (hts _ tw_1145) (fun _ h9 => h9) rfl dX12_image_62 ?_
        refine lv_iload_n hx hb dX12_image_65 rfl (lv_at hl 0 rfl) ?_
        refine va_iald hx hb hK hP 1 0 rfl rfl (vp_in_nI (by omega) (by decide)) dX12_image_66 ?_
        refine W.eq (g2 := F0 m 67 ls [.int 0, .int (nI (612 + i_29)), .ref m_images]) rfl ?_
        refine va_iast hx hb hK hP hD hS 2 1 rfl rfl (vp_in_nI (by omega) (by decide)) dX12_image_67 (fun H locs hP hD hS => ?_)
        have hP : va_P (dC, dI) vwCl [(h0, .inr (12, [.ref m_tape, .int 0, .int 0, .ref m_sign, .ref m_length, .ref m_clause, .ref m_clauses, .ref m_read, .int 0, .int 0, .int 0, .int 0, .int 0, .int 0, .int 0, .ref m_open, .int 0, .ref m_stack, .int 0, .ref m_word, .ref m_said, .int (-1), .int 0, .ref m_vote, .int 0, .ref m_wasSaid, .int 0, .ref m_kept, .ref m_wanted, .ref m_chosenBy, .ref m_gone, .ref m_isFit, .ref m_bishopThen, .long 0, .ref m_images, .ref m_imageForce, .ref m_imageX, .ref m_isMade])), (m_said, .inl (mk_said, 306, .inl (fun _ => 0))), (m_images, .inl (mk_images, 1224, .inl (upd f_28 (Int32.toNatClampNeg (nI (612 + i_29))) 0))), (m_imageForce, .inl (mk_imageForce, 4, .inl f_26)), (m_imageX, .inl (mk_imageX, 4, .inl f_27)), (m_isMade, .inl (mk_isMade, 4, .inl f_25))] H := hP
        have hD : va_D A [(h0, .inr (12, [.ref m_tape, .int 0, .int 0, .ref m_sign, .ref m_length, .ref m_clause, .ref m_clauses, .ref m_read, .int 0, .int 0, .int 0, .int 0, .int 0, .int 0, .int 0, .ref m_open, .int 0, .ref m_stack, .int 0, .ref m_word, .ref m_said, .int (-1), .int 0, .ref m_vote, .int 0, .ref m_wasSaid, .int 0, .ref m_kept, .ref m_wanted, .ref m_chosenBy, .ref m_gone, .ref m_isFit, .ref m_bishopThen, .long 0, .ref m_images, .ref m_imageForce, .ref m_imageX, .ref m_isMade])), (m_said, .inl (mk_said, 306, .inl (fun _ => 0))), (m_images, .inl (mk_images, 1224, .inl (upd f_28 (Int32.toNatClampNeg (nI (612 + i_29))) 0))), (m_imageForce, .inl (mk_imageForce, 4, .inl f_26)), (m_imageX, .inl (mk_imageX, 4, .inl f_27)), (m_isMade, .inl (mk_isMade, 4, .inl f_25))] := hD
        generalize upd f_28 (Int32.toNatClampNeg (nI (612 + i_29))) 0 = f_35 at hP hD
        refine lv_iinc (v := nI (i_29 + 1)) (lv' := [(2, .int (nI (i_29 + 1))), (0, .ref h0), (1, .int (nI 2))]) hx hb dX12_image_68 hl (k := 0) rfl (nI_1 _) (by decide) rfl (fun ls hl => ?_)
        refine lv_goto (tgt := 43) hx hb dX12_image_71 (by decide) ?_
        exact ih_i_29 f_35 _ _ _ hlt_i_29 ⟨hP, hD, hS, lv_sub hl [0, 1, 2] rfl⟩
    · refine lv_aload_n hx hb dX12_image_14 rfl (lv_at hl 0 rfl) ?_
      refine va_get (D := (dC, dI)) (ci := 12) (v := .ref m_isMade) (C := RX12) (T := TX12) (N := 38) hx hb hts iX12 hown hK hP 0 rfl rfl 37 (by decide) (hts _ tw_1162) (fun _ h9 => h9) rfl dX12_image_15 ?_
      refine lv_iload_n hx hb dX12_image_18 rfl (lv_at hl 1 rfl) ?_
      refine lv_iconst (v := 1) hx hb dX12_image_19 (by decide) ?_
      refine va_zast hx hb hK hP hD hS 5 4 rfl rfl (show vp_in (nI 3) 4 from (by decide : ¬ ((nI 3 : Int32) < 0 ∨ 4 ≤ (nI 3 : Int32).toNatClampNeg))) dX12_image_20 (fun H locs hP hD hS => ?_)
      have hP : va_P (dC, dI) vwCl [(h0, .inr (12, [.ref m_tape, .int 0, .int 0, .ref m_sign, .ref m_length, .ref m_clause, .ref m_clauses, .ref m_read, .int 0, .int 0, .int 0, .int 0, .int 0, .int 0, .int 0, .ref m_open, .int 0, .ref m_stack, .int 0, .ref m_word, .ref m_said, .int (-1), .int 0, .ref m_vote, .int 0, .ref m_wasSaid, .int 0, .ref m_kept, .ref m_wanted, .ref m_chosenBy, .ref m_gone, .ref m_isFit, .ref m_bishopThen, .long 0, .ref m_images, .ref m_imageForce, .ref m_imageX, .ref m_isMade])), (m_said, .inl (mk_said, 306, .inl (fun _ => 0))), (m_images, .inl (mk_images, 1224, .inl (fun _ => 0))), (m_imageForce, .inl (mk_imageForce, 4, .inl (fun _ => 0))), (m_imageX, .inl (mk_imageX, 4, .inl (fun _ => 0))), (m_isMade, .inl (mk_isMade, 4, .inl (upd (fun _ => 0) (Int32.toNatClampNeg (nI 3)) (vp_nar .boolean 1))))] H := hP
      have hD : va_D A [(h0, .inr (12, [.ref m_tape, .int 0, .int 0, .ref m_sign, .ref m_length, .ref m_clause, .ref m_clauses, .ref m_read, .int 0, .int 0, .int 0, .int 0, .int 0, .int 0, .int 0, .ref m_open, .int 0, .ref m_stack, .int 0, .ref m_word, .ref m_said, .int (-1), .int 0, .ref m_vote, .int 0, .ref m_wasSaid, .int 0, .ref m_kept, .ref m_wanted, .ref m_chosenBy, .ref m_gone, .ref m_isFit, .ref m_bishopThen, .long 0, .ref m_images, .ref m_imageForce, .ref m_imageX, .ref m_isMade])), (m_said, .inl (mk_said, 306, .inl (fun _ => 0))), (m_images, .inl (mk_images, 1224, .inl (fun _ => 0))), (m_imageForce, .inl (mk_imageForce, 4, .inl (fun _ => 0))), (m_imageX, .inl (mk_imageX, 4, .inl (fun _ => 0))), (m_isMade, .inl (mk_isMade, 4, .inl (upd (fun _ => 0) (Int32.toNatClampNeg (nI 3)) (vp_nar .boolean 1))))] := hD
      generalize upd (fun _ => 0) (Int32.toNatClampNeg (nI 3)) (vp_nar .boolean 1) = f_36 at hP hD
      refine lv_aload_n hx hb dX12_image_21 rfl (lv_at hl 0 rfl) ?_
      refine va_get (D := (dC, dI)) (ci := 12) (v := .ref m_imageForce) (C := RX12) (T := TX12) (N := 38) hx hb hts iX12 hown hK hP 0 rfl rfl 35 (by decide) (hts _ tw_1160) (fun _ h9 => h9) rfl dX12_image_22 ?_
      refine lv_iload_n hx hb dX12_image_25 rfl (lv_at hl 1 rfl) ?_
      refine lv_aload_n hx hb dX12_image_26 rfl (lv_at hl 0 rfl) ?_
      refine va_get (D := (dC, dI)) (ci := 12) (v := .int (-1)) (C := RX12) (T := TX12) (N := 38) hx hb hts iX12 hown hK hP 0 rfl rfl 21 (by decide) (hts _ tw_1146) (fun _ h9 => h9) rfl dX12_image_27 ?_
      refine va_iast hx hb hK hP hD hS 3 2 rfl rfl (show vp_in (nI 3) 4 from (by decide : ¬ ((nI 3 : Int32) < 0 ∨ 4 ≤ (nI 3 : Int32).toNatClampNeg))) dX12_image_30 (fun H locs hP hD hS => ?_)
      have hP : va_P (dC, dI) vwCl [(h0, .inr (12, [.ref m_tape, .int 0, .int 0, .ref m_sign, .ref m_length, .ref m_clause, .ref m_clauses, .ref m_read, .int 0, .int 0, .int 0, .int 0, .int 0, .int 0, .int 0, .ref m_open, .int 0, .ref m_stack, .int 0, .ref m_word, .ref m_said, .int (-1), .int 0, .ref m_vote, .int 0, .ref m_wasSaid, .int 0, .ref m_kept, .ref m_wanted, .ref m_chosenBy, .ref m_gone, .ref m_isFit, .ref m_bishopThen, .long 0, .ref m_images, .ref m_imageForce, .ref m_imageX, .ref m_isMade])), (m_said, .inl (mk_said, 306, .inl (fun _ => 0))), (m_images, .inl (mk_images, 1224, .inl (fun _ => 0))), (m_imageForce, .inl (mk_imageForce, 4, .inl (upd (fun _ => 0) (Int32.toNatClampNeg (nI 3)) (-1)))), (m_imageX, .inl (mk_imageX, 4, .inl (fun _ => 0))), (m_isMade, .inl (mk_isMade, 4, .inl f_36))] H := hP
      have hD : va_D A [(h0, .inr (12, [.ref m_tape, .int 0, .int 0, .ref m_sign, .ref m_length, .ref m_clause, .ref m_clauses, .ref m_read, .int 0, .int 0, .int 0, .int 0, .int 0, .int 0, .int 0, .ref m_open, .int 0, .ref m_stack, .int 0, .ref m_word, .ref m_said, .int (-1), .int 0, .ref m_vote, .int 0, .ref m_wasSaid, .int 0, .ref m_kept, .ref m_wanted, .ref m_chosenBy, .ref m_gone, .ref m_isFit, .ref m_bishopThen, .long 0, .ref m_images, .ref m_imageForce, .ref m_imageX, .ref m_isMade])), (m_said, .inl (mk_said, 306, .inl (fun _ => 0))), (m_images, .inl (mk_images, 1224, .inl (fun _ => 0))), (m_imageForce, .inl (mk_imageForce, 4, .inl (upd (fun _ => 0) (Int32.toNatClampNeg (nI 3)) (-1)))), (m_imageX, .inl (mk_imageX, 4, .inl (fun _ => 0))), (m_isMade, .inl (mk_isMade, 4, .inl f_36))] := hD
      generalize upd (fun _ => 0) (Int32.toNatClampNeg (nI 3)) (-1) = f_37 at hP hD
      refine lv_aload_n hx hb dX12_image_31 rfl (lv_at hl 0 rfl) ?_
      refine va_get (D := (dC, dI)) (ci := 12) (v := .ref m_imageX) (C := RX12) (T := TX12) (N := 38) hx hb hts iX12 hown hK hP 0 rfl rfl 36 (by decide) (hts _ tw_1161) (fun _ h9 => h9) rfl dX12_image_32 ?_
      refine lv_iload_n hx hb dX12_image_35 rfl (lv_at hl 1 rfl) ?_
      refine lv_aload_n hx hb dX12_image_36 rfl (lv_at hl 0 rfl) ?_
      refine va_get (D := (dC, dI)) (ci := 12) (v := .int 0) (C := RX12) (T := TX12) (N := 38) hx hb hts iX12 hown hK hP 0 rfl rfl 22 (by decide) (hts _ tw_1147) (fun _ h9 => h9) rfl dX12_image_37 ?_
      refine va_iast hx hb hK hP hD hS 4 3 rfl rfl (show vp_in (nI 3) 4 from (by decide : ¬ ((nI 3 : Int32) < 0 ∨ 4 ≤ (nI 3 : Int32).toNatClampNeg))) dX12_image_40 (fun H locs hP hD hS => ?_)
      have hP : va_P (dC, dI) vwCl [(h0, .inr (12, [.ref m_tape, .int 0, .int 0, .ref m_sign, .ref m_length, .ref m_clause, .ref m_clauses, .ref m_read, .int 0, .int 0, .int 0, .int 0, .int 0, .int 0, .int 0, .ref m_open, .int 0, .ref m_stack, .int 0, .ref m_word, .ref m_said, .int (-1), .int 0, .ref m_vote, .int 0, .ref m_wasSaid, .int 0, .ref m_kept, .ref m_wanted, .ref m_chosenBy, .ref m_gone, .ref m_isFit, .ref m_bishopThen, .long 0, .ref m_images, .ref m_imageForce, .ref m_imageX, .ref m_isMade])), (m_said, .inl (mk_said, 306, .inl (fun _ => 0))), (m_images, .inl (mk_images, 1224, .inl (fun _ => 0))), (m_imageForce, .inl (mk_imageForce, 4, .inl f_37)), (m_imageX, .inl (mk_imageX, 4, .inl (upd (fun _ => 0) (Int32.toNatClampNeg (nI 3)) 0))), (m_isMade, .inl (mk_isMade, 4, .inl f_36))] H := hP
      have hD : va_D A [(h0, .inr (12, [.ref m_tape, .int 0, .int 0, .ref m_sign, .ref m_length, .ref m_clause, .ref m_clauses, .ref m_read, .int 0, .int 0, .int 0, .int 0, .int 0, .int 0, .int 0, .ref m_open, .int 0, .ref m_stack, .int 0, .ref m_word, .ref m_said, .int (-1), .int 0, .ref m_vote, .int 0, .ref m_wasSaid, .int 0, .ref m_kept, .ref m_wanted, .ref m_chosenBy, .ref m_gone, .ref m_isFit, .ref m_bishopThen, .long 0, .ref m_images, .ref m_imageForce, .ref m_imageX, .ref m_isMade])), (m_said, .inl (mk_said, 306, .inl (fun _ => 0))), (m_images, .inl (mk_images, 1224, .inl (fun _ => 0))), (m_imageForce, .inl (mk_imageForce, 4, .inl f_37)), (m_imageX, .inl (mk_imageX, 4, .inl (upd (fun _ => 0) (Int32.toNatClampNeg (nI 3)) 0))), (m_isMade, .inl (mk_isMade, 4, .inl f_36))] := hD
      generalize upd (fun _ => 0) (Int32.toNatClampNeg (nI 3)) 0 = f_38 at hP hD
      refine lv_iconst (v := 0) hx hb dX12_image_41 (by decide) ?_
      refine lv_istore_n (lv' := [(2, .int 0), (0, .ref h0), (1, .int (nI 3))]) hx hb dX12_image_42 rfl hl (by decide) rfl (fun ls hl => ?_)
      refine loopW (N := 306) (fun (i_40 : Nat) (g : (Nat → Int32)) H locs ls => va_P (dC, dI) vwCl [(h0, .inr (12, [.ref m_tape, .int 0, .int 0, .ref m_sign, .ref m_length, .ref m_clause, .ref m_clauses, .ref m_read, .int 0, .int 0, .int 0, .int 0, .int 0, .int 0, .int 0, .ref m_open, .int 0, .ref m_stack, .int 0, .ref m_word, .ref m_said, .int (-1), .int 0, .ref m_vote, .int 0, .ref m_wasSaid, .int 0, .ref m_kept, .ref m_wanted, .ref m_chosenBy, .ref m_gone, .ref m_isFit, .ref m_bishopThen, .long 0, .ref m_images, .ref m_imageForce, .ref m_imageX, .ref m_isMade])), (m_said, .inl (mk_said, 306, .inl (fun _ => 0))), (m_images, .inl (mk_images, 1224, .inl g)), (m_imageForce, .inl (mk_imageForce, 4, .inl f_37)), (m_imageX, .inl (mk_imageX, 4, .inl f_38)), (m_isMade, .inl (mk_isMade, 4, .inl f_36))] H ∧ va_D A [(h0, .inr (12, [.ref m_tape, .int 0, .int 0, .ref m_sign, .ref m_length, .ref m_clause, .ref m_clauses, .ref m_read, .int 0, .int 0, .int 0, .int 0, .int 0, .int 0, .int 0, .ref m_open, .int 0, .ref m_stack, .int 0, .ref m_word, .ref m_said, .int (-1), .int 0, .ref m_vote, .int 0, .ref m_wasSaid, .int 0, .ref m_kept, .ref m_wanted, .ref m_chosenBy, .ref m_gone, .ref m_isFit, .ref m_bishopThen, .long 0, .ref m_images, .ref m_imageForce, .ref m_imageX, .ref m_isMade])), (m_said, .inl (mk_said, 306, .inl (fun _ => 0))), (m_images, .inl (mk_images, 1224, .inl g)), (m_imageForce, .inl (mk_imageForce, 4, .inl f_37)), (m_imageX, .inl (mk_imageX, 4, .inl f_38)), (m_isMade, .inl (mk_isMade, 4, .inl f_36))] ∧ va_S A s.heap H locs ∧ lv_has ls 3 [(2, .int (nI i_40)), (0, .ref h0), (1, .int (nI 3))]) ?_ ((fun _ => 0)) _ _ _ ⟨hP, hD, hS, lv_sub hl [0, 1, 2] rfl⟩
      intro i_40 f_39 H locs ls hi_i_40 ⟨hP, hD, hS, hl⟩ ih_i_40
      refine lv_iload_n hx hb dX12_image_43 rfl (lv_at hl 0 rfl) ?_
      refine lv_sipush (v := 306) hx hb dX12_image_44 (by decide) ?_
      refine lv_icmp_ge (tgt := 74) hx hb dX12_image_47 (by decide) (fun c_41 => ?_) (fun c_41 => ?_)
      · refine lv_aload_n hx hb dX12_image_74 rfl (lv_at hl 1 rfl) ?_
        refine va_get (D := (dC, dI)) (ci := 12) (v := .ref m_said) (C := RX12) (T := TX12) (N := 38) hx hb hts iX12 hown hK hP 0 rfl rfl 20 (by decide) (hts _ tw_1145) (fun _ h9 => h9) rfl dX12_image_75 ?_
        refine lv_bipush (v := 10) hx hb dX12_image_78 (by decide) ?_
        refine va_iald hx hb hK hP 1 0 rfl rfl (show vp_in 10 306 from (by decide : ¬ ((10 : Int32) < 0 ∨ 306 ≤ (10 : Int32).toNatClampNeg))) dX12_image_80 ?_
        refine W.eq (g2 := F0 m 81 ls [.int 0]) rfl ?_
        refine W.widen (k := 0) (n := 0) (Nat.le_of_ble_eq_true rfl) (Nat.le_of_ble_eq_true rfl) ?_
        exact W.iret (v := 0) hx hb hr (fun t ht hW => ⟨⟨0, (), rfl, (by decide), trivial⟩, hS.F ht⟩) hS.2.2 dX12_image_81
      · have hlt_i_40 : i_40 < 306 := lt_of_nle (k := 306) ⟨rfl, by decide⟩ c_41 hi_i_40
        refine lv_aload_n hx hb dX12_image_50 rfl (lv_at hl 1 rfl) ?_
        refine va_get (D := (dC, dI)) (ci := 12) (v := .ref m_images) (C := RX12) (T := TX12) (N := 38) hx hb hts iX12 hown hK hP 0 rfl rfl 34 (by decide) (hts _ tw_1159) (fun _ h9 => h9) rfl dX12_image_51 ?_
        refine lv_sipush (v := 306) hx hb dX12_image_54 (by decide) ?_
        refine lv_iload_n hx hb dX12_image_57 rfl (lv_at hl 2 rfl) ?_
        refine lv_imul hx hb dX12_image_58 ?_
        refine lv_topi (fun x_43 ex_43 => ?_)
        obtain rfl : x_43 = 918 := ex_43.trans (by decide)
        refine lv_iload_n hx hb dX12_image_59 rfl (lv_at hl 0 rfl) ?_
        refine lv_iadd hx hb dX12_image_60 ?_
        refine lv_topi (fun x_44 ex_44 => ?_)
        obtain rfl : x_44 = nI (918 + i_40) := ex_44.trans (nI_add (918) (i_40))
        refine lv_aload_n hx hb dX12_image_61 rfl (lv_at hl 1 rfl) ?_
        refine va_get (D := (dC, dI)) (ci := 12) (v := .ref m_said) (C := RX12) (T := TX12) (N := 38) hx hb hts iX12 hown hK hP 0 rfl rfl 20 (by decide) (hts _ tw_1145) (fun _ h9 => h9) rfl dX12_image_62 ?_
        refine lv_iload_n hx hb dX12_image_65 rfl (lv_at hl 0 rfl) ?_
        refine va_iald hx hb hK hP 1 0 rfl rfl (vp_in_nI (by omega) (by decide)) dX12_image_66 ?_
        refine W.eq (g2 := F0 m 67 ls [.int 0, .int (nI (918 + i_40)), .ref m_images]) rfl ?_
        refine va_iast hx hb hK hP hD hS 2 1 rfl rfl (vp_in_nI (by omega) (by decide)) dX12_image_67 (fun H locs hP hD hS => ?_)
        have hP : va_P (dC, dI) vwCl [(h0, .inr (12, [.ref m_tape, .int 0, .int 0, .ref m_sign, .ref m_length, .ref m_clause, .ref m_clauses, .ref m_read, .int 0, .int 0, .int 0, .int 0, .int 0, .int 0, .int 0, .ref m_open, .int 0, .ref m_stack, .int 0, .ref m_word, .ref m_said, .int (-1), .int 0, .ref m_vote, .int 0, .ref m_wasSaid, .int 0, .ref m_kept, .ref m_wanted, .ref m_chosenBy, .ref m_gone, .ref m_isFit, .ref m_bishopThen, .long 0, .ref m_images, .ref m_imageForce, .ref m_imageX, .ref m_isMade])), (m_said, .inl (mk_said, 306, .inl (fun _ => 0))), (m_images, .inl (mk_images, 1224, .inl (upd f_39 (Int32.toNatClampNeg (nI (918 + i_40))) 0))), (m_imageForce, .inl (mk_imageForce, 4, .inl f_37)), (m_imageX, .inl (mk_imageX, 4, .inl f_38)), (m_isMade, .inl (mk_isMade, 4, .inl f_36))] H := hP
        have hD : va_D A [(h0, .inr (12, [.ref m_tape, .int 0, .int 0, .ref m_sign, .ref m_length, .ref m_clause, .ref m_clauses, .ref m_read, .int 0, .int 0, .int 0, .int 0, .int 0, .int 0, .int 0, .ref m_open, .int 0, .ref m_stack, .int 0, .ref m_word, .ref m_said, .int (-1), .int 0, .ref m_vote, .int 0, .ref m_wasSaid, .int 0, .ref m_kept, .ref m_wanted, .ref m_chosenBy, .ref m_gone, .ref m_isFit, .ref m_bishopThen, .long 0, .ref m_images, .ref m_imageForce, .ref m_imageX, .ref m_isMade])), (m_said, .inl (mk_said, 306, .inl (fun _ => 0))), (m_images, .inl (mk_images, 1224, .inl (upd f_39 (Int32.toNatClampNeg (nI (918 + i_40))) 0))), (m_imageForce, .inl (mk_imageForce, 4, .inl f_37)), (m_imageX, .inl (mk_imageX, 4, .inl f_38)), (m_isMade, .inl (mk_isMade, 4, .inl f_36))] := hD
        generalize upd f_39 (Int32.toNatClampNeg (nI (918 + i_40))) 0 = f_46 at hP hD
        refine lv_iinc (v := nI (i_40 + 1)) (lv' := [(2, .int (nI (i_40 + 1))), (0, .ref h0), (1, .int (nI 3))]) hx hb dX12_image_68 hl (k := 0) rfl (nI_1 _) (by decide) rfl (fun ls hl => ?_)
        refine lv_goto (tgt := 43) hx hb dX12_image_71 (by decide) ?_
        exact ih_i_40 f_46 _ _ _ hlt_i_40 ⟨hP, hD, hS, lv_sub hl [0, 1, 2] rfl⟩
  · refine lv_iconst (v := (-1)) hx hb dX12_image_12 (by decide) ?_
    refine W.widen (k := 0) (n := 0) (Nat.le_of_ble_eq_true rfl) (Nat.le_of_ble_eq_true rfl) ?_
    exact W.iret (v := (-1)) hx hb hr (fun t ht hW => ⟨⟨(-1), (), rfl, (f_in0 c_2).symm, trivial⟩, hS.F ht⟩) hS.2.2 dX12_image_13
set_option maxHeartbeats 4000000 in
set_option maxRecDepth 100000 in
theorem m_back (l : Launch) (dC : Nat → ClassId) (dI : Nat → Nat → Nat) (h0 : Nat) (m_tape : Nat) (m_sign : Nat) (m_length : Nat) (m_clause : Nat) (m_clauses : Nat) (m_read : Nat) (m_open : Nat) (m_stack : Nat) (m_word : Nat) (m_said : Nat) (m_vote : Nat) (m_wasSaid : Nat) (m_kept : Nat) (m_wanted : Nat) (m_chosenBy : Nat) (m_gone : Nat) (m_isFit : Nat) (m_bishopThen : Nat) (m_images : Nat) (m_imageForce : Nat) (m_imageX : Nat) (m_isMade : Nat) (mk_isMade : ClassId) (a0 : Int32) (sz : Nat) : Met l yX12_back (ws_u yX12_back cX12_back 3 (some .int)) ({ frames := 1, cells := 0, slots := 0, locals := 25 }) (va_Pc [.ref h0, .int a0] (cPre (dC, dI) [(mk_isMade, .boolean)] [(h0, .inr (12, [.ref m_tape, .int 0, .int 0, .ref m_sign, .ref m_length, .ref m_clause, .ref m_clauses, .ref m_read, .int 0, .int 0, .int 0, .int 0, .int 0, .int 0, .int 0, .ref m_open, .int 0, .ref m_stack, .int 0, .ref m_word, .ref m_said, .int (-1), .int 0, .ref m_vote, .int 0, .ref m_wasSaid, .int 0, .ref m_kept, .ref m_wanted, .ref m_chosenBy, .ref m_gone, .ref m_isFit, .ref m_bishopThen, .long 0, .ref m_images, .ref m_imageForce, .ref m_imageX, .ref m_isMade])), (m_isMade, .inl (mk_isMade, 4, .inl (fun _ => 0)))] sz)) (va_Qi (fun (r : Int32) (_ : Unit) => r = (-1)) (fun _ _ => True) (va_A [(h0, .inr (12, [.ref m_tape, .int 0, .int 0, .ref m_sign, .ref m_length, .ref m_clause, .ref m_clauses, .ref m_read, .int 0, .int 0, .int 0, .int 0, .int 0, .int 0, .int 0, .ref m_open, .int 0, .ref m_stack, .int 0, .ref m_word, .ref m_said, .int (-1), .int 0, .ref m_vote, .int 0, .ref m_wasSaid, .int 0, .ref m_kept, .ref m_wanted, .ref m_chosenBy, .ref m_gone, .ref m_isFit, .ref m_bishopThen, .long 0, .ref m_images, .ref m_imageForce, .ref m_imageX, .ref m_isMade])), (m_isMade, .inl (mk_isMade, 4, .inl (fun _ => 0)))] sz)) 0 0 (va_A [(h0, .inr (12, [.ref m_tape, .int 0, .int 0, .ref m_sign, .ref m_length, .ref m_clause, .ref m_clauses, .ref m_read, .int 0, .int 0, .int 0, .int 0, .int 0, .int 0, .int 0, .ref m_open, .int 0, .ref m_stack, .int 0, .ref m_word, .ref m_said, .int (-1), .int 0, .ref m_vote, .int 0, .ref m_wasSaid, .int 0, .ref m_kept, .ref m_wanted, .ref m_chosenBy, .ref m_gone, .ref m_isFit, .ref m_bishopThen, .long 0, .ref m_images, .ref m_imageForce, .ref m_imageX, .ref m_isMade])), (m_isMade, .inl (mk_isMade, 4, .inl (fun _ => 0)))] sz) := by
  refine Met.ofW (cc := cX12_back) (maxL := 3) (ret := (some .int)) (by decide) rfl ?_
  intro p e s m args below meth c s₁ B hml hv
  obtain ⟨rfl, hsz, hP, hK, hD0, hE⟩ := hv
  have hx := B.exec
  have hb := B.bytes
  have hr := B.returns
  have hts0 := atoms_spec (ws := ws_u yX12_back cX12_back 3 (some .int)) B.pre
  have hts : ∀ w ∈ gT, w.before _ s = true := fun w h => hts0 w (List.mem_cons_of_mem _ h)
  have hown : s.vm.findClass RX12 = some m.cls := findClass_of_methodNamed B.named
  have hlocks := B.notSynchronized
  subst hsz
  have hD := hD0.self (sz := s.heap.size)
  generalize hAe : va_A [(h0, .inr (12, [.ref m_tape, .int 0, .int 0, .ref m_sign, .ref m_length, .ref m_clause, .ref m_clauses, .ref m_read, .int 0, .int 0, .int 0, .int 0, .int 0, .int 0, .int 0, .ref m_open, .int 0, .ref m_stack, .int 0, .ref m_word, .ref m_said, .int (-1), .int 0, .ref m_vote, .int 0, .ref m_wasSaid, .int 0, .ref m_kept, .ref m_wanted, .ref m_chosenBy, .ref m_gone, .ref m_isFit, .ref m_bishopThen, .long 0, .ref m_images, .ref m_imageForce, .ref m_imageX, .ref m_isMade])), (m_isMade, .inl (mk_isMade, 4, .inl (fun _ => 0)))] s.heap.size = A at hD ⊢
  have hA : ∀ q : Nat, s.heap.size ≤ q → A q := fun q h => by rw [← hAe]; exact Or.inr h
  have hS : va_S A s.heap s.heap [] := va_S.rf
  have hl := lv_entry ([.ref h0, .int a0]) (n := 3) (Nat.le_of_ble_eq_true rfl)
  rw [lg_entry_eq]
  generalize (lg_sl ([.ref h0, .int a0]) ++ List.replicate (3 - (lg_sl ([.ref h0, .int a0])).length) Slot.unset).toArray = ls at hl ⊢
  have hl : lv_has ls 3 [(0, .ref h0), (1, .int a0)] := hl
  have hP : va_P (dC, dI) vwCl [(h0, .inr (12, [.ref m_tape, .int 0, .int 0, .ref m_sign, .ref m_length, .ref m_clause, .ref m_clauses, .ref m_read, .int 0, .int 0, .int 0, .int 0, .int 0, .int 0, .int 0, .ref m_open, .int 0, .ref m_stack, .int 0, .ref m_word, .ref m_said, .int (-1), .int 0, .ref m_vote, .int 0, .ref m_wasSaid, .int 0, .ref m_kept, .ref m_wanted, .ref m_chosenBy, .ref m_gone, .ref m_isFit, .ref m_bishopThen, .long 0, .ref m_images, .ref m_imageForce, .ref m_imageX, .ref m_isMade])), (m_isMade, .inl (mk_isMade, 4, .inl (fun _ => 0)))] s.heap := hP
  try clear hAe
  refine lv_iload_n hx hb dX12_back_0 rfl (lv_at hl 1 rfl) ?_
  refine lv_i2l (v := a0.toInt64) hx hb dX12_back_1 rfl ?_
  refine lv_lconst (v := 0) hx hb dX12_back_2 (by decide) ?_
  refine lv_ldc2 (v := 3) hx hb hown (hts _ tw_1452) dX12_back_3 ?_
  have hPc := hP.sub (ws' := []) [] rfl
  have hDc := hD.sub (ws' := []) [] (by decide) rfl
  have hKc := hK.sub (tys' := []) [] rfl
  have hFc := va_free (wc := []) hD hS hA [] rfl
  refine va_calli (va_runS (As := [.long a0.toInt64, .long 0, .long 3]) (rest := []) ⟨hx, hb, hml, hown, hts⟩ (m_in l dC dI a0.toInt64  s.heap.size) (va_cwS 3 hts (gUS tw_1316 tw_1317 tw_13 tw_1318) rfl rfl rfl (by decide +kernel) ⟨(Nat.le_of_ble_eq_true rfl), (Nat.le_of_ble_eq_true rfl)⟩) ⟨cPre.blind, cPre.use hPc hKc hDc hE⟩ rfl rfl hl.1 rfl (lv_room (Nat.le_of_ble_eq_true rfl)) dX12_back_6 ⟨(Nat.le_of_ble_eq_true rfl), (Nat.le_of_ble_eq_true rfl)⟩) hS (fun q _ h => hFc q h) hFc (fun r_1 u t H1 locs ht hvm hw hB hz1 hk1 hS => ?_)
  obtain ⟨hP1, hK1, hD1⟩ := hB
  rw [ht] at hP1
  obtain ⟨hP, hD⟩ := va_join (wr := [(h0, .inr (12, [.ref m_tape, .int 0, .int 0, .ref m_sign, .ref m_length, .ref m_clause, .ref m_clauses, .ref m_read, .int 0, .int 0, .int 0, .int 0, .int 0, .int 0, .int 0, .ref m_open, .int 0, .ref m_stack, .int 0, .ref m_word, .ref m_said, .int (-1), .int 0, .ref m_vote, .int 0, .ref m_wasSaid, .int 0, .ref m_kept, .ref m_wanted, .ref m_chosenBy, .ref m_gone, .ref m_isFit, .ref m_bishopThen, .long 0, .ref m_images, .ref m_imageForce, .ref m_imageX, .ref m_isMade])), (m_isMade, .inl (mk_isMade, 4, .inl (fun _ => 0)))]) (w1 := []) hP hD [] [0, 1] rfl rfl (by decide) (by decide) hk1 hFc hP1 hD1
  generalize H1 = H at hP hS ⊢
  have hP : va_P (dC, dI) vwCl [(h0, .inr (12, [.ref m_tape, .int 0, .int 0, .ref m_sign, .ref m_length, .ref m_clause, .ref m_clauses, .ref m_read, .int 0, .int 0, .int 0, .int 0, .int 0, .int 0, .int 0, .ref m_open, .int 0, .ref m_stack, .int 0, .ref m_word, .ref m_said, .int (-1), .int 0, .ref m_vote, .int 0, .ref m_wasSaid, .int 0, .ref m_kept, .ref m_wanted, .ref m_chosenBy, .ref m_gone, .ref m_isFit, .ref m_bishopThen, .long 0, .ref m_images, .ref m_imageForce, .ref m_imageX, .ref m_isMade])), (m_isMade, .inl (mk_isMade, 4, .inl (fun _ => 0)))] H := hP
  have hD : va_D A [(h0, .inr (12, [.ref m_tape, .int 0, .int 0, .ref m_sign, .ref m_length, .ref m_clause, .ref m_clauses, .ref m_read, .int 0, .int 0, .int 0, .int 0, .int 0, .int 0, .int 0, .ref m_open, .int 0, .ref m_stack, .int 0, .ref m_word, .ref m_said, .int (-1), .int 0, .ref m_vote, .int 0, .ref m_wasSaid, .int 0, .ref m_kept, .ref m_wanted, .ref m_chosenBy, .ref m_gone, .ref m_isFit, .ref m_bishopThen, .long 0, .ref m_images, .ref m_imageForce, .ref m_imageX, .ref m_isMade])), (m_isMade, .inl (mk_isMade, 4, .inl (fun _ => 0)))] := hD
  obtain rfl : r_1 = f_in a0.toInt64 := hw
  refine lv_if_eq (tgt := 21) hx hb dX12_back_9 (by decide) (fun c_2 => ?_) (fun c_2 => ?_)
  · refine lv_iconst (v := (-1)) hx hb dX12_back_21 (by decide) ?_
    refine W.widen (k := 0) (n := 0) (Nat.le_of_ble_eq_true rfl) (Nat.le_of_ble_eq_true rfl) ?_
    exact W.iret (v := (-1)) hx hb hr (fun t ht hW => ⟨⟨(-1), (), rfl, rfl, trivial⟩, hS.F ht⟩) hS.2.2 dX12_back_22
  · rcases f_in4 c_2 with rfl | rfl | rfl | rfl
    · refine lv_aload_n hx hb dX12_back_12 rfl (lv_at hl 0 rfl) ?_
      refine va_get (D := (dC, dI)) (ci := 12) (v := .ref m_isMade) (C := RX12) (T := TX12) (N := 38) hx hb hts iX12 hown hK hP 0 rfl rfl 37 (by decide) (hts _ tw_1162) (fun _ h9 => h9) rfl dX12_back_13 ?_
      refine lv_iload_n hx hb dX12_back_16 rfl (lv_at hl 1 rfl) ?_
      refine va_zald hx hb hK hP 1 0 rfl rfl (show vp_in (nI 0) 4 from (by decide : ¬ ((nI 0 : Int32) < 0 ∨ 4 ≤ (nI 0 : Int32).toNatClampNeg))) dX12_back_17 ?_
      refine W.eq (g2 := F0 m 18 ls [.int 0]) rfl ?_
      refine lv_if_ne (tgt := 23) hx hb dX12_back_18 (by decide) (fun c_4 => absurd (by decide) c_4) (fun c_4 => ?_)
      refine lv_iconst (v := (-1)) hx hb dX12_back_21 (by decide) ?_
      refine W.widen (k := 0) (n := 0) (Nat.le_of_ble_eq_true rfl) (Nat.le_of_ble_eq_true rfl) ?_
      exact W.iret (v := (-1)) hx hb hr (fun t ht hW => ⟨⟨(-1), (), rfl, rfl, trivial⟩, hS.F ht⟩) hS.2.2 dX12_back_22
    · refine lv_aload_n hx hb dX12_back_12 rfl (lv_at hl 0 rfl) ?_
      refine va_get (D := (dC, dI)) (ci := 12) (v := .ref m_isMade) (C := RX12) (T := TX12) (N := 38) hx hb hts iX12 hown hK hP 0 rfl rfl 37 (by decide) (hts _ tw_1162) (fun _ h9 => h9) rfl dX12_back_13 ?_
      refine lv_iload_n hx hb dX12_back_16 rfl (lv_at hl 1 rfl) ?_
      refine va_zald hx hb hK hP 1 0 rfl rfl (show vp_in (nI 1) 4 from (by decide : ¬ ((nI 1 : Int32) < 0 ∨ 4 ≤ (nI 1 : Int32).toNatClampNeg))) dX12_back_17 ?_
      refine W.eq (g2 := F0 m 18 ls [.int 0]) rfl ?_
      refine lv_if_ne (tgt := 23) hx hb dX12_back_18 (by decide) (fun c_6 => absurd (by decide) c_6) (fun c_6 => ?_)
      refine lv_iconst (v := (-1)) hx hb dX12_back_21 (by decide) ?_
      refine W.widen (k := 0) (n := 0) (Nat.le_of_ble_eq_true rfl) (Nat.le_of_ble_eq_true rfl) ?_
      exact W.iret (v := (-1)) hx hb hr (fun t ht hW => ⟨⟨(-1), (), rfl, rfl, trivial⟩, hS.F ht⟩) hS.2.2 dX12_back_22
    · refine lv_aload_n hx hb dX12_back_12 rfl (lv_at hl 0 rfl) ?_
      refine va_get (D := (dC, dI)) (ci := 12) (v := .ref m_isMade) (C := RX12) (T := TX12) (N := 38) hx hb hts iX12 hown hK hP 0 rfl rfl 37 (by decide) (hts _ tw_1162) (fun _ h9 => h9) rfl dX12_back_13 ?_
      refine lv_iload_n hx hb dX12_back_16 rfl (lv_at hl 1 rfl) ?_
      refine va_zald hx hb hK hP 1 0 rfl rfl (show vp_in (nI 2) 4 from (by decide : ¬ ((nI 2 : Int32) < 0 ∨ 4 ≤ (nI 2 : Int32).toNatClampNeg))) dX12_back_17 ?_
      refine W.eq (g2 := F0 m 18 ls [.int 0]) rfl ?_
      refine lv_if_ne (tgt := 23) hx hb dX12_back_18 (by decide) (fun c_8 => absurd (by decide) c_8) (fun c_8 => ?_)
      refine lv_iconst (v := (-1)) hx hb dX12_back_21 (by decide) ?_
      refine W.widen (k := 0) (n := 0) (Nat.le_of_ble_eq_true rfl) (Nat.le_of_ble_eq_true rfl) ?_
      exact W.iret (v := (-1)) hx hb hr (fun t ht hW => ⟨⟨(-1), (), rfl, rfl, trivial⟩, hS.F ht⟩) hS.2.2 dX12_back_22
    · refine lv_aload_n hx hb dX12_back_12 rfl (lv_at hl 0 rfl) ?_
      refine va_get (D := (dC, dI)) (ci := 12) (v := .ref m_isMade) (C := RX12) (T := TX12) (N := 38) hx hb hts iX12 hown hK hP 0 rfl rfl 37 (by decide) (hts _ tw_1162) (fun _ h9 => h9) rfl dX12_back_13 ?_
      refine lv_iload_n hx hb dX12_back_16 rfl (lv_at hl 1 rfl) ?_
      refine va_zald hx hb hK hP 1 0 rfl rfl (show vp_in (nI 3) 4 from (by decide : ¬ ((nI 3 : Int32) < 0 ∨ 4 ≤ (nI 3 : Int32).toNatClampNeg))) dX12_back_17 ?_
      refine W.eq (g2 := F0 m 18 ls [.int 0]) rfl ?_
      refine lv_if_ne (tgt := 23) hx hb dX12_back_18 (by decide) (fun c_10 => absurd (by decide) c_10) (fun c_10 => ?_)
      refine lv_iconst (v := (-1)) hx hb dX12_back_21 (by decide) ?_
      refine W.widen (k := 0) (n := 0) (Nat.le_of_ble_eq_true rfl) (Nat.le_of_ble_eq_true rfl) ?_
      exact W.iret (v := (-1)) hx hb hr (fun t ht hW => ⟨⟨(-1), (), rfl, rfl, trivial⟩, hS.F ht⟩) hS.2.2 dX12_back_22
