theorem ts_3_0 : Cond.selects "BoyBishopModel" ⟨"BoyBishopModel", "four", "(I)V"⟩ ⟨"BoyBishopModel", "four", "(I)V"⟩ ∈ gT := gT_in (List.mem_append_left _ (List.mem_map.mpr ⟨(⟨"BoyBishopModel", "four", "(I)V"⟩, 38), (List.mem_append_right _ (List.mem_append_right _ (List.mem_append_right _ (List.mem_append_left _ (List.mem_of_getElem? (i := 0) rfl))))), rfl⟩)) rfl
theorem tw_1244 : (Jvm.Cond.methodLink "BoyBishopModel" (86 : Nat) ({ cls := "BoyBishopModel", name := "four", desc := "(I)V" } : Jvm.MethodName)) ∈ gT := gT_in (List.mem_append_right _ (List.mem_append_right _ (List.mem_append_right _ (List.mem_append_right _ (List.mem_append_right _ (List.mem_append_right _ (List.mem_append_left _ (List.mem_of_getElem? (i := 44) rfl)))))))) rfl
theorem tw_1246 : (Jvm.Cond.instanceMethod ({ cls := "BoyBishopModel", name := "four", desc := "(I)V" } : Jvm.MethodName)) ∈ gT := gT_in (List.mem_append_right _ (List.mem_append_right _ (List.mem_append_right _ (List.mem_append_right _ (List.mem_append_right _ (List.mem_append_right _ (List.mem_append_left _ (List.mem_of_getElem? (i := 46) rfl)))))))) rfl
theorem tw_1247 : (Jvm.Cond.code ({ cls := "BoyBishopModel", name := "four", desc := "(I)V" } : Jvm.MethodName) prog_14_method_6_code (3 : Nat) (Option.none : Option Jvm.ClassFile.FieldType)) ∈ gT := gT_in (List.mem_append_right _ (List.mem_append_right _ (List.mem_append_right _ (List.mem_append_right _ (List.mem_append_right _ (List.mem_append_right _ (List.mem_append_left _ (List.mem_of_getElem? (i := 47) rfl)))))))) rfl
theorem dX12_feed_0 : decode cX12_feed 0 = .ok (.aload_n 0, 1) := by decide +kernel
theorem dX12_feed_1 : decode cX12_feed 1 = .ok (.getfield 83, 3) := by decide +kernel
theorem dX12_feed_4 : decode cX12_feed 4 = .ok (.bipush 20, 2) := by decide +kernel
theorem dX12_feed_6 : decode cX12_feed 6 = .ok (.iadd, 1) := by decide +kernel
theorem dX12_feed_7 : decode cX12_feed 7 = .ok (.sipush 400, 3) := by decide +kernel
theorem dX12_feed_10 : decode cX12_feed 10 = .ok (.if_icmp .le 5, 3) := by decide +kernel
theorem dX12_feed_15 : decode cX12_feed 15 = .ok (.aload_n 0, 1) := by decide +kernel
theorem dX12_feed_16 : decode cX12_feed 16 = .ok (.iload_n 1, 1) := by decide +kernel
theorem dX12_feed_17 : decode cX12_feed 17 = .ok (.invokevirtual 86, 3) := by decide +kernel
theorem dX12_feed_20 : decode cX12_feed 20 = .ok (.aload_n 0, 1) := by decide +kernel
theorem dX12_feed_21 : decode cX12_feed 21 = .ok (.iload_n 2, 1) := by decide +kernel
theorem dX12_feed_22 : decode cX12_feed 22 = .ok (.invokevirtual 86, 3) := by decide +kernel
theorem dX12_feed_25 : decode cX12_feed 25 = .ok (.aload_n 0, 1) := by decide +kernel
theorem dX12_feed_26 : decode cX12_feed 26 = .ok (.iload_n 3, 1) := by decide +kernel
theorem dX12_feed_27 : decode cX12_feed 27 = .ok (.invokevirtual 86, 3) := by decide +kernel
theorem dX12_feed_30 : decode cX12_feed 30 = .ok (.aload_n 0, 1) := by decide +kernel
theorem dX12_feed_31 : decode cX12_feed 31 = .ok (.iload 4, 2) := by decide +kernel
theorem dX12_feed_33 : decode cX12_feed 33 = .ok (.invokevirtual 86, 3) := by decide +kernel
theorem dX12_feed_36 : decode cX12_feed 36 = .ok (.aload_n 0, 1) := by decide +kernel
theorem dX12_feed_37 : decode cX12_feed 37 = .ok (.iload 5, 2) := by decide +kernel
theorem dX12_feed_39 : decode cX12_feed 39 = .ok (.invokevirtual 86, 3) := by decide +kernel
theorem dX12_feed_42 : decode cX12_feed 42 = .ok (.aload_n 0, 1) := by decide +kernel
theorem dX12_feed_43 : decode cX12_feed 43 = .ok (.getfield 83, 3) := by decide +kernel
theorem dX12_feed_46 : decode cX12_feed 46 = .ok (.ireturn, 1) := by decide +kernel
theorem dX12_four_0 : decode cX12_four 0 = .ok (.bipush 24, 2) := by decide +kernel
theorem dX12_four_2 : decode cX12_four 2 = .ok (.istore_n 2, 1) := by decide +kernel
theorem dX12_four_3 : decode cX12_four 3 = .ok (.iload_n 2, 1) := by decide +kernel
theorem dX12_four_4 : decode cX12_four 4 = .ok (.ifCond .lt 32, 3) := by decide +kernel
theorem dX12_four_7 : decode cX12_four 7 = .ok (.aload_n 0, 1) := by decide +kernel
theorem dX12_four_8 : decode cX12_four 8 = .ok (.getfield 7, 3) := by decide +kernel
theorem dX12_four_11 : decode cX12_four 11 = .ok (.aload_n 0, 1) := by decide +kernel
theorem dX12_four_12 : decode cX12_four 12 = .ok (.getfield 83, 3) := by decide +kernel
theorem dX12_four_15 : decode cX12_four 15 = .ok (.iload_n 1, 1) := by decide +kernel
theorem dX12_four_16 : decode cX12_four 16 = .ok (.iload_n 2, 1) := by decide +kernel
theorem dX12_four_17 : decode cX12_four 17 = .ok (.ishr, 1) := by decide +kernel
theorem dX12_four_18 : decode cX12_four 18 = .ok (.i2b, 1) := by decide +kernel
theorem dX12_four_19 : decode cX12_four 19 = .ok (.bastore, 1) := by decide +kernel
theorem dX12_four_20 : decode cX12_four 20 = .ok (.aload_n 0, 1) := by decide +kernel
theorem dX12_four_21 : decode cX12_four 21 = .ok (.dup, 1) := by decide +kernel
theorem dX12_four_22 : decode cX12_four 22 = .ok (.getfield 83, 3) := by decide +kernel
theorem dX12_four_25 : decode cX12_four 25 = .ok (.iconst 1, 1) := by decide +kernel
theorem dX12_four_26 : decode cX12_four 26 = .ok (.iadd, 1) := by decide +kernel
theorem dX12_four_27 : decode cX12_four 27 = .ok (.putfield 83, 3) := by decide +kernel
theorem dX12_four_30 : decode cX12_four 30 = .ok (.iinc 2 (-8), 3) := by decide +kernel
theorem dX12_four_33 : decode cX12_four 33 = .ok (.goto (-30), 3) := by decide +kernel
theorem dX12_four_36 : decode cX12_four 36 = .ok (.return_, 1) := by decide +kernel
set_option maxHeartbeats 4000000 in
set_option maxRecDepth 100000 in
theorem m_four_0 (l : Launch) (dC : Nat → ClassId) (dI : Nat → Nat → Nat) (h0 : Nat) (m_tape : Nat) (m_sign : Nat) (m_length : Nat) (m_clause : Nat) (m_clauses : Nat) (m_read : Nat) (m_open : Nat) (m_stack : Nat) (m_word : Nat) (m_said : Nat) (m_vote : Nat) (m_wasSaid : Nat) (m_kept : Nat) (m_wanted : Nat) (m_chosenBy : Nat) (m_gone : Nat) (m_isFit : Nat) (m_bishopThen : Nat) (m_images : Nat) (m_imageForce : Nat) (m_imageX : Nat) (m_isMade : Nat) (mk_tape : ClassId) (f : Nat → Int32) (a0 : Int32) (sz : Nat) : Met l yX12_four (ws_u yX12_four cX12_four 3 none) ({ frames := 0, cells := 0, slots := 0, locals := 0 }) (va_Pc [.ref h0, .int a0] (cPre (dC, dI) [(mk_tape, .byte)] [(h0, .inr (12, [.ref m_tape, .int 0, .int 0, .ref m_sign, .ref m_length, .ref m_clause, .ref m_clauses, .ref m_read, .int 0, .int 0, .int 0, .int 0, .int 0, .int 0, .int 0, .ref m_open, .int 0, .ref m_stack, .int 0, .ref m_word, .ref m_said, .int (-1), .int 0, .ref m_vote, .int 0, .ref m_wasSaid, .int 0, .ref m_kept, .ref m_wanted, .ref m_chosenBy, .ref m_gone, .ref m_isFit, .ref m_bishopThen, .long 0, .ref m_images, .ref m_imageForce, .ref m_imageX, .ref m_isMade])), (m_tape, .inl (mk_tape, 400, .inl f))] sz)) (va_Qv (fun _ : Unit => True) (fun _ t => ∃ (g : Nat → Int32), cPost (dC, dI) [(mk_tape, .byte)] [(h0, .inr (12, [.ref m_tape, .int 4, .int 0, .ref m_sign, .ref m_length, .ref m_clause, .ref m_clauses, .ref m_read, .int 0, .int 0, .int 0, .int 0, .int 0, .int 0, .int 0, .ref m_open, .int 0, .ref m_stack, .int 0, .ref m_word, .ref m_said, .int (-1), .int 0, .ref m_vote, .int 0, .ref m_wasSaid, .int 0, .ref m_kept, .ref m_wanted, .ref m_chosenBy, .ref m_gone, .ref m_isFit, .ref m_bishopThen, .long 0, .ref m_images, .ref m_imageForce, .ref m_imageX, .ref m_isMade])), (m_tape, .inl (mk_tape, 400, .inl g))] (va_A [(h0, .inr (12, [.ref m_tape, .int 0, .int 0, .ref m_sign, .ref m_length, .ref m_clause, .ref m_clauses, .ref m_read, .int 0, .int 0, .int 0, .int 0, .int 0, .int 0, .int 0, .ref m_open, .int 0, .ref m_stack, .int 0, .ref m_word, .ref m_said, .int (-1), .int 0, .ref m_vote, .int 0, .ref m_wasSaid, .int 0, .ref m_kept, .ref m_wanted, .ref m_chosenBy, .ref m_gone, .ref m_isFit, .ref m_bishopThen, .long 0, .ref m_images, .ref m_imageForce, .ref m_imageX, .ref m_isMade])), (m_tape, .inl (mk_tape, 400, .inl f))] sz) t) (va_A [(h0, .inr (12, [.ref m_tape, .int 0, .int 0, .ref m_sign, .ref m_length, .ref m_clause, .ref m_clauses, .ref m_read, .int 0, .int 0, .int 0, .int 0, .int 0, .int 0, .int 0, .ref m_open, .int 0, .ref m_stack, .int 0, .ref m_word, .ref m_said, .int (-1), .int 0, .ref m_vote, .int 0, .ref m_wasSaid, .int 0, .ref m_kept, .ref m_wanted, .ref m_chosenBy, .ref m_gone, .ref m_isFit, .ref m_bishopThen, .long 0, .ref m_images, .ref m_imageForce, .ref m_imageX, .ref m_isMade])), (m_tape, .inl (mk_tape, 400, .inl f))] sz)) 0 0 (va_A [(h0, .inr (12, [.ref m_tape, .int 0, .int 0, .ref m_sign, .ref m_length, .ref m_clause, .ref m_clauses, .ref m_read, .int 0, .int 0, .int 0, .int 0, .int 0, .int 0, .int 0, .ref m_open, .int 0, .ref m_stack, .int 0, .ref m_word, .ref m_said, .int (-1), .int 0, .ref m_vote, .int 0, .ref m_wasSaid, .int 0, .ref m_kept, .ref m_wanted, .ref m_chosenBy, .ref m_gone, .ref m_isFit, .ref m_bishopThen, .long 0, .ref m_images, .ref m_imageForce, .ref m_imageX, .ref m_isMade])), (m_tape, .inl (mk_tape, 400, .inl f))] sz) := by
  refine Met.ofW (cc := cX12_four) (maxL := 3) (ret := none) (by decide) rfl ?_
  intro p e s m args below meth c s₁ B hml hv
  obtain ⟨rfl, hsz, hP, hK, hD0, hE⟩ := hv
  have hx := B.exec
  have hb := B.bytes
  have hr := B.returns
  have hts0 := atoms_spec (ws := ws_u yX12_four cX12_four 3 none) B.pre
  have hts : ∀ w ∈ gT, w.before _ s = true := fun w h => hts0 w (List.mem_cons_of_mem _ h)
  have hown : s.vm.findClass RX12 = some m.cls := findClass_of_methodNamed B.named
  have hlocks := B.notSynchronized
  subst hsz
  have hD := hD0.self (sz := s.heap.size)
  generalize hAe : va_A [(h0, .inr (12, [.ref m_tape, .int 0, .int 0, .ref m_sign, .ref m_length, .ref m_clause, .ref m_clauses, .ref m_read, .int 0, .int 0, .int 0, .int 0, .int 0, .int 0, .int 0, .ref m_open, .int 0, .ref m_stack, .int 0, .ref m_word, .ref m_said, .int (-1), .int 0, .ref m_vote, .int 0, .ref m_wasSaid, .int 0, .ref m_kept, .ref m_wanted, .ref m_chosenBy, .ref m_gone, .ref m_isFit, .ref m_bishopThen, .long 0, .ref m_images, .ref m_imageForce, .ref m_imageX, .ref m_isMade])), (m_tape, .inl (mk_tape, 400, .inl f))] s.heap.size = A at hD ⊢
  have hA : ∀ q : Nat, s.heap.size ≤ q → A q := fun q h => by rw [← hAe]; exact Or.inr h
  have hS : va_S A s.heap s.heap [] := va_S.rf
  have hl := lv_entry ([.ref h0, .int a0]) (n := 3) (Nat.le_of_ble_eq_true rfl)
  rw [lg_entry_eq]
  generalize (lg_sl ([.ref h0, .int a0]) ++ List.replicate (3 - (lg_sl ([.ref h0, .int a0])).length) Slot.unset).toArray = ls at hl ⊢
  have hl : lv_has ls 3 [(0, .ref h0), (1, .int a0)] := hl
  have hP : va_P (dC, dI) vwCl [(h0, .inr (12, [.ref m_tape, .int 0, .int 0, .ref m_sign, .ref m_length, .ref m_clause, .ref m_clauses, .ref m_read, .int 0, .int 0, .int 0, .int 0, .int 0, .int 0, .int 0, .ref m_open, .int 0, .ref m_stack, .int 0, .ref m_word, .ref m_said, .int (-1), .int 0, .ref m_vote, .int 0, .ref m_wasSaid, .int 0, .ref m_kept, .ref m_wanted, .ref m_chosenBy, .ref m_gone, .ref m_isFit, .ref m_bishopThen, .long 0, .ref m_images, .ref m_imageForce, .ref m_imageX, .ref m_isMade])), (m_tape, .inl (mk_tape, 400, .inl f))] s.heap := hP
  try clear hAe
  refine lv_bipush (v := 24) hx hb dX12_four_0 (by decide) ?_
  refine lv_istore_n (lv' := [(2, .int 24), (0, .ref h0), (1, .int a0)]) hx hb dX12_four_2 rfl hl (by decide) rfl (fun ls hl => ?_)
  refine lv_iload_n hx hb dX12_four_3 rfl (lv_at hl 0 rfl) ?_
  refine lv_if_lt (tgt := 36) hx hb dX12_four_4 (by decide) (fun c_1 => absurd c_1 (by decide)) (fun c_1 => ?_)
  refine lv_aload_n hx hb dX12_four_7 rfl (lv_at hl 1 rfl) ?_
  refine va_get (D := (dC, dI)) (ci := 12) (v := .ref m_tape) (C := RX12) (T := TX12) (N := 38) hx hb hts iX12 hown hK hP 0 rfl rfl 0 (by decide) (hts _ tw_1125) (fun _ h9 => h9) rfl dX12_four_8 ?_
  refine lv_aload_n hx hb dX12_four_11 rfl (lv_at hl 1 rfl) ?_
  refine va_get (D := (dC, dI)) (ci := 12) (v := .int 0) (C := RX12) (T := TX12) (N := 38) hx hb hts iX12 hown hK hP 0 rfl rfl 1 (by decide) (hts _ tw_1126) (fun _ h9 => h9) rfl dX12_four_12 ?_
  refine lv_iload_n hx hb dX12_four_15 rfl (lv_at hl 2 rfl) ?_
  refine lv_iload_n hx hb dX12_four_16 rfl (lv_at hl 0 rfl) ?_
  refine lv_ishr hx hb dX12_four_17 ?_
  refine lv_topi (fun x_2 ex_2 => ?_)
  obtain ⟨x_3, ex_3⟩ : ∃ y : Int32, x_2.toInt8.toInt32 = y := ⟨_, rfl⟩
  refine lv_i2b (v := x_3) hx hb dX12_four_18 ex_3 ?_
  refine va_bast hx hb hK hP hD hS 1 0 rfl rfl (show vp_in 0 400 from (by decide : ¬ ((0 : Int32) < 0 ∨ 400 ≤ (0 : Int32).toNatClampNeg))) dX12_four_19 (fun H locs hP hD hS => ?_)
  have hP : va_P (dC, dI) vwCl [(h0, .inr (12, [.ref m_tape, .int 0, .int 0, .ref m_sign, .ref m_length, .ref m_clause, .ref m_clauses, .ref m_read, .int 0, .int 0, .int 0, .int 0, .int 0, .int 0, .int 0, .ref m_open, .int 0, .ref m_stack, .int 0, .ref m_word, .ref m_said, .int (-1), .int 0, .ref m_vote, .int 0, .ref m_wasSaid, .int 0, .ref m_kept, .ref m_wanted, .ref m_chosenBy, .ref m_gone, .ref m_isFit, .ref m_bishopThen, .long 0, .ref m_images, .ref m_imageForce, .ref m_imageX, .ref m_isMade])), (m_tape, .inl (mk_tape, 400, .inl (upd f (Int32.toNatClampNeg 0) (vp_nar .byte x_3))))] H := hP
  have hD : va_D A [(h0, .inr (12, [.ref m_tape, .int 0, .int 0, .ref m_sign, .ref m_length, .ref m_clause, .ref m_clauses, .ref m_read, .int 0, .int 0, .int 0, .int 0, .int 0, .int 0, .int 0, .ref m_open, .int 0, .ref m_stack, .int 0, .ref m_word, .ref m_said, .int (-1), .int 0, .ref m_vote, .int 0, .ref m_wasSaid, .int 0, .ref m_kept, .ref m_wanted, .ref m_chosenBy, .ref m_gone, .ref m_isFit, .ref m_bishopThen, .long 0, .ref m_images, .ref m_imageForce, .ref m_imageX, .ref m_isMade])), (m_tape, .inl (mk_tape, 400, .inl (upd f (Int32.toNatClampNeg 0) (vp_nar .byte x_3))))] := hD
  generalize upd f (Int32.toNatClampNeg 0) (vp_nar .byte x_3) = f_4 at hP hD
  refine lv_aload_n hx hb dX12_four_20 rfl (lv_at hl 1 rfl) ?_
  refine lv_dup hx hb dX12_four_21 rfl ?_
  refine va_get (D := (dC, dI)) (ci := 12) (v := .int 0) (C := RX12) (T := TX12) (N := 38) hx hb hts iX12 hown hK hP 0 rfl rfl 1 (by decide) (hts _ tw_1126) (fun _ h9 => h9) rfl dX12_four_22 ?_
  refine lv_iconst (v := 1) hx hb dX12_four_25 (by decide) ?_
  refine lv_iadd hx hb dX12_four_26 ?_
  refine lv_topi (fun x_5 ex_5 => ?_)
  obtain rfl : x_5 = 1 := ex_5.trans (by decide)
  refine va_put (D := (dC, dI)) (ci := 12) (v := .int 1) (C := RX12) (T := TX12) (N := 38) hx hb hts iX12 tyX12 tyX12_ok nmX12 hown hK hP hD hS 0 rfl rfl 1 (by decide) (hts _ tw_1126) (fun _ h9 => h9) rfl (tyX12_ok 1 (by decide)) rfl rfl (Nat.le_of_ble_eq_true rfl) dX12_four_27 (fun H locs hP hD hS => ?_)
  have hP : va_P (dC, dI) vwCl [(h0, .inr (12, [.ref m_tape, .int 1, .int 0, .ref m_sign, .ref m_length, .ref m_clause, .ref m_clauses, .ref m_read, .int 0, .int 0, .int 0, .int 0, .int 0, .int 0, .int 0, .ref m_open, .int 0, .ref m_stack, .int 0, .ref m_word, .ref m_said, .int (-1), .int 0, .ref m_vote, .int 0, .ref m_wasSaid, .int 0, .ref m_kept, .ref m_wanted, .ref m_chosenBy, .ref m_gone, .ref m_isFit, .ref m_bishopThen, .long 0, .ref m_images, .ref m_imageForce, .ref m_imageX, .ref m_isMade])), (m_tape, .inl (mk_tape, 400, .inl f_4))] H := hP
  have hD : va_D A [(h0, .inr (12, [.ref m_tape, .int 1, .int 0, .ref m_sign, .ref m_length, .ref m_clause, .ref m_clauses, .ref m_read, .int 0, .int 0, .int 0, .int 0, .int 0, .int 0, .int 0, .ref m_open, .int 0, .ref m_stack, .int 0, .ref m_word, .ref m_said, .int (-1), .int 0, .ref m_vote, .int 0, .ref m_wasSaid, .int 0, .ref m_kept, .ref m_wanted, .ref m_chosenBy, .ref m_gone, .ref m_isFit, .ref m_bishopThen, .long 0, .ref m_images, .ref m_imageForce, .ref m_imageX, .ref m_isMade])), (m_tape, .inl (mk_tape, 400, .inl f_4))] := hD
  refine lv_iinc (v := 16) (lv' := [(2, .int 16), (0, .ref h0), (1, .int a0)]) hx hb dX12_four_30 hl (k := 0) rfl (by decide) (by decide) rfl (fun ls hl => ?_)
  refine lv_goto (tgt := 3) hx hb dX12_four_33 (by decide) ?_
  refine lv_iload_n hx hb dX12_four_3 rfl (lv_at hl 0 rfl) ?_
  refine lv_if_lt (tgt := 36) hx hb dX12_four_4 (by decide) (fun c_6 => absurd c_6 (by decide)) (fun c_6 => ?_)
  refine lv_aload_n hx hb dX12_four_7 rfl (lv_at hl 1 rfl) ?_
  refine va_get (D := (dC, dI)) (ci := 12) (v := .ref m_tape) (C := RX12) (T := TX12) (N := 38) hx hb hts iX12 hown hK hP 0 rfl rfl 0 (by decide) (hts _ tw_1125) (fun _ h9 => h9) rfl dX12_four_8 ?_
  refine lv_aload_n hx hb dX12_four_11 rfl (lv_at hl 1 rfl) ?_
  refine va_get (D := (dC, dI)) (ci := 12) (v := .int 1) (C := RX12) (T := TX12) (N := 38) hx hb hts iX12 hown hK hP 0 rfl rfl 1 (by decide) (hts _ tw_1126) (fun _ h9 => h9) rfl dX12_four_12 ?_
  refine lv_iload_n hx hb dX12_four_15 rfl (lv_at hl 2 rfl) ?_
  refine lv_iload_n hx hb dX12_four_16 rfl (lv_at hl 0 rfl) ?_
  refine lv_ishr hx hb dX12_four_17 ?_
  refine lv_topi (fun x_7 ex_7 => ?_)
  obtain ⟨x_8, ex_8⟩ : ∃ y : Int32, x_7.toInt8.toInt32 = y := ⟨_, rfl⟩
  refine lv_i2b (v := x_8) hx hb dX12_four_18 ex_8 ?_
  refine va_bast hx hb hK hP hD hS 1 0 rfl rfl (show vp_in 1 400 from (by decide : ¬ ((1 : Int32) < 0 ∨ 400 ≤ (1 : Int32).toNatClampNeg))) dX12_four_19 (fun H locs hP hD hS => ?_)
  have hP : va_P (dC, dI) vwCl [(h0, .inr (12, [.ref m_tape, .int 1, .int 0, .ref m_sign, .ref m_length, .ref m_clause, .ref m_clauses, .ref m_read, .int 0, .int 0, .int 0, .int 0, .int 0, .int 0, .int 0, .ref m_open, .int 0, .ref m_stack, .int 0, .ref m_word, .ref m_said, .int (-1), .int 0, .ref m_vote, .int 0, .ref m_wasSaid, .int 0, .ref m_kept, .ref m_wanted, .ref m_chosenBy, .ref m_gone, .ref m_isFit, .ref m_bishopThen, .long 0, .ref m_images, .ref m_imageForce, .ref m_imageX, .ref m_isMade])), (m_tape, .inl (mk_tape, 400, .inl (upd f_4 (Int32.toNatClampNeg 1) (vp_nar .byte x_8))))] H := hP
  have hD : va_D A [(h0, .inr (12, [.ref m_tape, .int 1, .int 0, .ref m_sign, .ref m_length, .ref m_clause, .ref m_clauses, .ref m_read, .int 0, .int 0, .int 0, .int 0, .int 0, .int 0, .int 0, .ref m_open, .int 0, .ref m_stack, .int 0, .ref m_word, .ref m_said, .int (-1), .int 0, .ref m_vote, .int 0, .ref m_wasSaid, .int 0, .ref m_kept, .ref m_wanted, .ref m_chosenBy, .ref m_gone, .ref m_isFit, .ref m_bishopThen, .long 0, .ref m_images, .ref m_imageForce, .ref m_imageX, .ref m_isMade])), (m_tape, .inl (mk_tape, 400, .inl (upd f_4 (Int32.toNatClampNeg 1) (vp_nar .byte x_8))))] := hD
  generalize upd f_4 (Int32.toNatClampNeg 1) (vp_nar .byte x_8) = f_9 at hP hD
  refine lv_aload_n hx hb dX12_four_20 rfl (lv_at hl 1 rfl) ?_
  refine lv_dup hx hb dX12_four_21 rfl ?_
  refine va_get (D := (dC, dI)) (ci := 12) (v := .int 1) (C := RX12) (T := TX12) (N := 38) hx hb hts iX12 hown hK hP 0 rfl rfl 1 (by decide) (hts _ tw_1126) (fun _ h9 => h9) rfl dX12_four_22 ?_
  refine lv_iconst (v := 1) hx hb dX12_four_25 (by decide) ?_
  refine lv_iadd hx hb dX12_four_26 ?_
  refine lv_topi (fun x_10 ex_10 => ?_)
  obtain rfl : x_10 = 2 := ex_10.trans (by decide)
  refine va_put (D := (dC, dI)) (ci := 12) (v := .int 2) (C := RX12) (T := TX12) (N := 38) hx hb hts iX12 tyX12 tyX12_ok nmX12 hown hK hP hD hS 0 rfl rfl 1 (by decide) (hts _ tw_1126) (fun _ h9 => h9) rfl (tyX12_ok 1 (by decide)) rfl rfl (Nat.le_of_ble_eq_true rfl) dX12_four_27 (fun H locs hP hD hS => ?_)
  have hP : va_P (dC, dI) vwCl [(h0, .inr (12, [.ref m_tape, .int 2, .int 0, .ref m_sign, .ref m_length, .ref m_clause, .ref m_clauses, .ref m_read, .int 0, .int 0, .int 0, .int 0, .int 0, .int 0, .int 0, .ref m_open, .int 0, .ref m_stack, .int 0, .ref m_word, .ref m_said, .int (-1), .int 0, .ref m_vote, .int 0, .ref m_wasSaid, .int 0, .ref m_kept, .ref m_wanted, .ref m_chosenBy, .ref m_gone, .ref m_isFit, .ref m_bishopThen, .long 0, .ref m_images, .ref m_imageForce, .ref m_imageX, .ref m_isMade])), (m_tape, .inl (mk_tape, 400, .inl f_9))] H := hP
  have hD : va_D A [(h0, .inr (12, [.ref m_tape, .int 2, .int 0, .ref m_sign, .ref m_length, .ref m_clause, .ref m_clauses, .ref m_read, .int 0, .int 0, .int 0, .int 0, .int 0, .int 0, .int 0, .ref m_open, .int 0, .ref m_stack, .int 0, .ref m_word, .ref m_said, .int (-1), .int 0, .ref m_vote, .int 0, .ref m_wasSaid, .int 0, .ref m_kept, .ref m_wanted, .ref m_chosenBy, .ref m_gone, .ref m_isFit, .ref m_bishopThen, .long 0, .ref m_images, .ref m_imageForce, .ref m_imageX, .ref m_isMade])), (m_tape, .inl (mk_tape, 400, .inl f_9))] := hD
  refine lv_iinc (v := 8) (lv' := [(2, .int 8), (0, .ref h0), (1, .int a0)]) hx hb dX12_four_30 hl (k := 0) rfl (by decide) (by decide) rfl (fun ls hl => ?_)
  refine lv_goto (tgt := 3) hx hb dX12_four_33 (by decide) ?_
  refine lv_iload_n hx hb dX12_four_3 rfl (lv_at hl 0 rfl) ?_
  refine lv_if_lt (tgt := 36) hx hb dX12_four_4 (by decide) (fun c_11 => absurd c_11 (by decide)) (fun c_11 => ?_)
  refine lv_aload_n hx hb dX12_four_7 rfl (lv_at hl 1 rfl) ?_
  refine va_get (D := (dC, dI)) (ci := 12) (v := .ref m_tape) (C := RX12) (T := TX12) (N := 38) hx hb hts iX12 hown hK hP 0 rfl rfl 0 (by decide) (hts _ tw_1125) (fun _ h9 => h9) rfl dX12_four_8 ?_
  refine lv_aload_n hx hb dX12_four_11 rfl (lv_at hl 1 rfl) ?_
  refine va_get (D := (dC, dI)) (ci := 12) (v := .int 2) (C := RX12) (T := TX12) (N := 38) hx hb hts iX12 hown hK hP 0 rfl rfl 1 (by decide) (hts _ tw_1126) (fun _ h9 => h9) rfl dX12_four_12 ?_
  refine lv_iload_n hx hb dX12_four_15 rfl (lv_at hl 2 rfl) ?_
  refine lv_iload_n hx hb dX12_four_16 rfl (lv_at hl 0 rfl) ?_
  refine lv_ishr hx hb dX12_four_17 ?_
  refine lv_topi (fun x_12 ex_12 => ?_)
  obtain ⟨x_13, ex_13⟩ : ∃ y : Int32, x_12.toInt8.toInt32 = y := ⟨_, rfl⟩
  refine lv_i2b (v := x_13) hx hb dX12_four_18 ex_13 ?_
  refine va_bast hx hb hK hP hD hS 1 0 rfl rfl (show vp_in 2 400 from (by decide : ¬ ((2 : Int32) < 0 ∨ 400 ≤ (2 : Int32).toNatClampNeg))) dX12_four_19 (fun H locs hP hD hS => ?_)
  have hP : va_P (dC, dI) vwCl [(h0, .inr (12, [.ref m_tape, .int 2, .int 0, .ref m_sign, .ref m_length, .ref m_clause, .ref m_clauses, .ref m_read, .int 0, .int 0, .int 0, .int 0, .int 0, .int 0, .int 0, .ref m_open, .int 0, .ref m_stack, .int 0, .ref m_word, .ref m_said, .int (-1), .int 0, .ref m_vote, .int 0, .ref m_wasSaid, .int 0, .ref m_kept, .ref m_wanted, .ref m_chosenBy, .ref m_gone, .ref m_isFit, .ref m_bishopThen, .long 0, .ref m_images, .ref m_imageForce, .ref m_imageX, .ref m_isMade])), (m_tape, .inl (mk_tape, 400, .inl (upd f_9 (Int32.toNatClampNeg 2) (vp_nar .byte x_13))))] H := hP
  have hD : va_D A [(h0, .inr (12, [.ref m_tape, .int 2, .int 0, .ref m_sign, .ref m_length, .ref m_clause, .ref m_clauses, .ref m_read, .int 0, .int 0, .int 0, .int 0, .int 0, .int 0, .int 0, .ref m_open, .int 0, .ref m_stack, .int 0, .ref m_word, .ref m_said, .int (-1), .int 0, .ref m_vote, .int 0, .ref m_wasSaid, .int 0, .ref m_kept, .ref m_wanted, .ref m_chosenBy, .ref m_gone, .ref m_isFit, .ref m_bishopThen, .long 0, .ref m_images, .ref m_imageForce, .ref m_imageX, .ref m_isMade])), (m_tape, .inl (mk_tape, 400, .inl (upd f_9 (Int32.toNatClampNeg 2) (vp_nar .byte x_13))))] := hD
  generalize upd f_9 (Int32.toNatClampNeg 2) (vp_nar .byte x_13) = f_14 at hP hD
  refine lv_aload_n hx hb dX12_four_20 rfl (lv_at hl 1 rfl) ?_
  refine lv_dup hx hb dX12_four_21 rfl ?_
  refine va_get (D := (dC, dI)) (ci := 12) (v := .int 2) (C := RX12) (T := TX12) (N := 38) hx hb hts iX12 hown hK hP 0 rfl rfl 1 (by decide) (hts _ tw_1126) (fun _ h9 => h9) rfl dX12_four_22 ?_
  refine lv_iconst (v := 1) hx hb dX12_four_25 (by decide) ?_
  refine lv_iadd hx hb dX12_four_26 ?_
  refine lv_topi (fun x_15 ex_15 => ?_)
  obtain rfl : x_15 = 3 := ex_15.trans (by decide)
  refine va_put (D := (dC, dI)) (ci := 12) (v := .int 3) (C := RX12) (T := TX12) (N := 38) hx hb hts iX12 tyX12 tyX12_ok nmX12 hown hK hP hD hS 0 rfl rfl 1 (by decide) (hts _ tw_1126) (fun _ h9 => h9) rfl (tyX12_ok 1 (by decide)) rfl rfl (Nat.le_of_ble_eq_true rfl) dX12_four_27 (fun H locs hP hD hS => ?_)
  have hP : va_P (dC, dI) vwCl [(h0, .inr (12, [.ref m_tape, .int 3, .int 0, .ref m_sign, .ref m_length, .ref m_clause, .ref m_clauses, .ref m_read, .int 0, .int 0, .int 0, .int 0, .int 0, .int 0, .int 0, .ref m_open, .int 0, .ref m_stack, .int 0, .ref m_word, .ref m_said, .int (-1), .int 0, .ref m_vote, .int 0, .ref m_wasSaid, .int 0, .ref m_kept, .ref m_wanted, .ref m_chosenBy, .ref m_gone, .ref m_isFit, .ref m_bishopThen, .long 0, .ref m_images, .ref m_imageForce, .ref m_imageX, .ref m_isMade])), (m_tape, .inl (mk_tape, 400, .inl f_14))] H := hP
  have hD : va_D A [(h0, .inr (12, [.ref m_tape, .int 3, .int 0, .ref m_sign, .ref m_length, .ref m_clause, .ref m_clauses, .ref m_read, .int 0, .int 0, .int 0, .int 0, .int 0, .int 0, .int 0, .ref m_open, .int 0, .ref m_stack, .int 0, .ref m_word, .ref m_said, .int (-1), .int 0, .ref m_vote, .int 0, .ref m_wasSaid, .int 0, .ref m_kept, .ref m_wanted, .ref m_chosenBy, .ref m_gone, .ref m_isFit, .ref m_bishopThen, .long 0, .ref m_images, .ref m_imageForce, .ref m_imageX, .ref m_isMade])), (m_tape, .inl (mk_tape, 400, .inl f_14))] := hD
  refine lv_iinc (v := 0) (lv' := [(2, .int 0), (0, .ref h0), (1, .int a0)]) hx hb dX12_four_30 hl (k := 0) rfl (by decide) (by decide) rfl (fun ls hl => ?_)
  refine lv_goto (tgt := 3) hx hb dX12_four_33 (by decide) ?_
  refine lv_iload_n hx hb dX12_four_3 rfl (lv_at hl 0 rfl) ?_
  refine lv_if_lt (tgt := 36) hx hb dX12_four_4 (by decide) (fun c_16 => absurd c_16 (by decide)) (fun c_16 => ?_)
  refine lv_aload_n hx hb dX12_four_7 rfl (lv_at hl 1 rfl) ?_
  refine va_get (D := (dC, dI)) (ci := 12) (v := .ref m_tape) (C := RX12) (T := TX12) (N := 38) hx hb hts iX12 hown hK hP 0 rfl rfl 0 (by decide) (hts _ tw_1125) (fun _ h9 => h9) rfl dX12_four_8 ?_
  refine lv_aload_n hx hb dX12_four_11 rfl (lv_at hl 1 rfl) ?_
  refine va_get (D := (dC, dI)) (ci := 12) (v := .int 3) (C := RX12) (T := TX12) (N := 38) hx hb hts iX12 hown hK hP 0 rfl rfl 1 (by decide) (hts _ tw_1126) (fun _ h9 => h9) rfl dX12_four_12 ?_
  refine lv_iload_n hx hb dX12_four_15 rfl (lv_at hl 2 rfl) ?_
  refine lv_iload_n hx hb dX12_four_16 rfl (lv_at hl 0 rfl) ?_
  refine lv_ishr hx hb dX12_four_17 ?_
  refine lv_topi (fun x_17 ex_17 => ?_)
  obtain ⟨x_18, ex_18⟩ : ∃ y : Int32, x_17.toInt8.toInt32 = y := ⟨_, rfl⟩
  refine lv_i2b (v := x_18) hx hb dX12_four_18 ex_18 ?_
  refine va_bast hx hb hK hP hD hS 1 0 rfl rfl (show vp_in 3 400 from (by decide : ¬ ((3 : Int32) < 0 ∨ 400 ≤ (3 : Int32).toNatClampNeg))) dX12_four_19 (fun H locs hP hD hS => ?_)
  have hP : va_P (dC, dI) vwCl [(h0, .inr (12, [.ref m_tape, .int 3, .int 0, .ref m_sign, .ref m_length, .ref m_clause, .ref m_clauses, .ref m_read, .int 0, .int 0, .int 0, .int 0, .int 0, .int 0, .int 0, .ref m_open, .int 0, .ref m_stack, .int 0, .ref m_word, .ref m_said, .int (-1), .int 0, .ref m_vote, .int 0, .ref m_wasSaid, .int 0, .ref m_kept, .ref m_wanted, .ref m_chosenBy, .ref m_gone, .ref m_isFit, .ref m_bishopThen, .long 0, .ref m_images, .ref m_imageForce, .ref m_imageX, .ref m_isMade])), (m_tape, .inl (mk_tape, 400, .inl (upd f_14 (Int32.toNatClampNeg 3) (vp_nar .byte x_18))))] H := hP
  have hD : va_D A [(h0, .inr (12, [.ref m_tape, .int 3, .int 0, .ref m_sign, .ref m_length, .ref m_clause, .ref m_clauses, .ref m_read, .int 0, .int 0, .int 0, .int 0, .int 0, .int 0, .int 0, .ref m_open, .int 0, .ref m_stack, .int 0, .ref m_word, .ref m_said, .int (-1), .int 0, .ref m_vote, .int 0, .ref m_wasSaid, .int 0, .ref m_kept, .ref m_wanted, .ref m_chosenBy, .ref m_gone, .ref m_isFit, .ref m_bishopThen, .long 0, .ref m_images, .ref m_imageForce, .ref m_imageX, .ref m_isMade])), (m_tape, .inl (mk_tape, 400, .inl (upd f_14 (Int32.toNatClampNeg 3) (vp_nar .byte x_18))))] := hD
  generalize upd f_14 (Int32.toNatClampNeg 3) (vp_nar .byte x_18) = f_19 at hP hD
  refine lv_aload_n hx hb dX12_four_20 rfl (lv_at hl 1 rfl) ?_
  refine lv_dup hx hb dX12_four_21 rfl ?_
  refine va_get (D := (dC, dI)) (ci := 12) (v := .int 3) (C := RX12) (T := TX12) (N := 38) hx hb hts iX12 hown hK hP 0 rfl rfl 1 (by decide) (hts _ tw_1126) (fun _ h9 => h9) rfl dX12_four_22 ?_
  refine lv_iconst (v := 1) hx hb dX12_four_25 (by decide) ?_
  refine lv_iadd hx hb dX12_four_26 ?_
  refine lv_topi (fun x_20 ex_20 => ?_)
  obtain rfl : x_20 = 4 := ex_20.trans (by decide)
  refine va_put (D := (dC, dI)) (ci := 12) (v := .int 4) (C := RX12) (T := TX12) (N := 38) hx hb hts iX12 tyX12 tyX12_ok nmX12 hown hK hP hD hS 0 rfl rfl 1 (by decide) (hts _ tw_1126) (fun _ h9 => h9) rfl (tyX12_ok 1 (by decide)) rfl rfl (Nat.le_of_ble_eq_true rfl) dX12_four_27 (fun H locs hP hD hS => ?_)
  have hP : va_P (dC, dI) vwCl [(h0, .inr (12, [.ref m_tape, .int 4, .int 0, .ref m_sign, .ref m_length, .ref m_clause, .ref m_clauses, .ref m_read, .int 0, .int 0, .int 0, .int 0, .int 0, .int 0, .int 0, .ref m_open, .int 0, .ref m_stack, .int 0, .ref m_word, .ref m_said, .int (-1), .int 0, .ref m_vote, .int 0, .ref m_wasSaid, .int 0, .ref m_kept, .ref m_wanted, .ref m_chosenBy, .ref m_gone, .ref m_isFit, .ref m_bishopThen, .long 0, .ref m_images, .ref m_imageForce, .ref m_imageX, .ref m_isMade])), (m_tape, .inl (mk_tape, 400, .inl f_19))] H := hP
  have hD : va_D A [(h0, .inr (12, [.ref m_tape, .int 4, .int 0, .ref m_sign, .ref m_length, .ref m_clause, .ref m_clauses, .ref m_read, .int 0, .int 0, .int 0, .int 0, .int 0, .int 0, .int 0, .ref m_open, .int 0, .ref m_stack, .int 0, .ref m_word, .ref m_said, .int (-1), .int 0, .ref m_vote, .int 0, .ref m_wasSaid, .int 0, .ref m_kept, .ref m_wanted, .ref m_chosenBy, .ref m_gone, .ref m_isFit, .ref m_bishopThen, .long 0, .ref m_images, .ref m_imageForce, .ref m_imageX, .ref m_isMade])), (m_tape, .inl (mk_tape, 400, .inl f_19))] := hD
  refine lv_iinc (v := (-8)) (lv' := [(2, .int (-8)), (0, .ref h0), (1, .int a0)]) hx hb dX12_four_30 hl (k := 0) rfl (by decide) (by decide) rfl (fun ls hl => ?_)
  refine lv_goto (tgt := 3) hx hb dX12_four_33 (by decide) ?_
  refine lv_iload_n hx hb dX12_four_3 rfl (lv_at hl 0 rfl) ?_
  refine lv_if_lt (tgt := 36) hx hb dX12_four_4 (by decide) (fun c_21 => ?_) (fun c_21 => absurd (by decide) c_21)
  have hP9 := hP.sub (ws' := [(h0, .inr (12, [.ref m_tape, .int 4, .int 0, .ref m_sign, .ref m_length, .ref m_clause, .ref m_clauses, .ref m_read, .int 0, .int 0, .int 0, .int 0, .int 0, .int 0, .int 0, .ref m_open, .int 0, .ref m_stack, .int 0, .ref m_word, .ref m_said, .int (-1), .int 0, .ref m_vote, .int 0, .ref m_wasSaid, .int 0, .ref m_kept, .ref m_wanted, .ref m_chosenBy, .ref m_gone, .ref m_isFit, .ref m_bishopThen, .long 0, .ref m_images, .ref m_imageForce, .ref m_imageX, .ref m_isMade])), (m_tape, .inl (mk_tape, 400, .inl f_19))]) [0, 1] rfl
  have hD9 := hD.sub (ws' := [(h0, .inr (12, [.ref m_tape, .int 4, .int 0, .ref m_sign, .ref m_length, .ref m_clause, .ref m_clauses, .ref m_read, .int 0, .int 0, .int 0, .int 0, .int 0, .int 0, .int 0, .ref m_open, .int 0, .ref m_stack, .int 0, .ref m_word, .ref m_said, .int (-1), .int 0, .ref m_vote, .int 0, .ref m_wasSaid, .int 0, .ref m_kept, .ref m_wanted, .ref m_chosenBy, .ref m_gone, .ref m_isFit, .ref m_bishopThen, .long 0, .ref m_images, .ref m_imageForce, .ref m_imageX, .ref m_isMade])), (m_tape, .inl (mk_tape, 400, .inl f_19))]) [0, 1] (by decide) rfl
  have hK9 := hK.sub (tys' := [(mk_tape, .byte)]) [0] rfl
  refine W.widen (k := 0) (n := 0) (Nat.le_of_ble_eq_true rfl) (Nat.le_of_ble_eq_true rfl) ?_
  exact W.vret hx hb hr (fun t ht hW => ⟨⟨(), rfl, trivial, ⟨f_19, by rw [ht]; exact hP9, va_K.moved hW.alike hK9, hD9⟩⟩, hS.F ht⟩) hS.2.2 dX12_four_36
set_option maxHeartbeats 4000000 in
set_option maxRecDepth 100000 in
theorem m_four_4 (l : Launch) (dC : Nat → ClassId) (dI : Nat → Nat → Nat) (h0 : Nat) (m_tape : Nat) (m_sign : Nat) (m_length : Nat) (m_clause : Nat) (m_clauses : Nat) (m_read : Nat) (m_open : Nat) (m_stack : Nat) (m_word : Nat) (m_said : Nat) (m_vote : Nat) (m_wasSaid : Nat) (m_kept : Nat) (m_wanted : Nat) (m_chosenBy : Nat) (m_gone : Nat) (m_isFit : Nat) (m_bishopThen : Nat) (m_images : Nat) (m_imageForce : Nat) (m_imageX : Nat) (m_isMade : Nat) (mk_tape : ClassId) (f : Nat → Int32) (a0 : Int32) (sz : Nat) : Met l yX12_four (ws_u yX12_four cX12_four 3 none) ({ frames := 0, cells := 0, slots := 0, locals := 0 }) (va_Pc [.ref h0, .int a0] (cPre (dC, dI) [(mk_tape, .byte)] [(h0, .inr (12, [.ref m_tape, .int 4, .int 0, .ref m_sign, .ref m_length, .ref m_clause, .ref m_clauses, .ref m_read, .int 0, .int 0, .int 0, .int 0, .int 0, .int 0, .int 0, .ref m_open, .int 0, .ref m_stack, .int 0, .ref m_word, .ref m_said, .int (-1), .int 0, .ref m_vote, .int 0, .ref m_wasSaid, .int 0, .ref m_kept, .ref m_wanted, .ref m_chosenBy, .ref m_gone, .ref m_isFit, .ref m_bishopThen, .long 0, .ref m_images, .ref m_imageForce, .ref m_imageX, .ref m_isMade])), (m_tape, .inl (mk_tape, 400, .inl f))] sz)) (va_Qv (fun _ : Unit => True) (fun _ t => ∃ (g : Nat → Int32), cPost (dC, dI) [(mk_tape, .byte)] [(h0, .inr (12, [.ref m_tape, .int 8, .int 0, .ref m_sign, .ref m_length, .ref m_clause, .ref m_clauses, .ref m_read, .int 0, .int 0, .int 0, .int 0, .int 0, .int 0, .int 0, .ref m_open, .int 0, .ref m_stack, .int 0, .ref m_word, .ref m_said, .int (-1), .int 0, .ref m_vote, .int 0, .ref m_wasSaid, .int 0, .ref m_kept, .ref m_wanted, .ref m_chosenBy, .ref m_gone, .ref m_isFit, .ref m_bishopThen, .long 0, .ref m_images, .ref m_imageForce, .ref m_imageX, .ref m_isMade])), (m_tape, .inl (mk_tape, 400, .inl g))] (va_A [(h0, .inr (12, [.ref m_tape, .int 4, .int 0, .ref m_sign, .ref m_length, .ref m_clause, .ref m_clauses, .ref m_read, .int 0, .int 0, .int 0, .int 0, .int 0, .int 0, .int 0, .ref m_open, .int 0, .ref m_stack, .int 0, .ref m_word, .ref m_said, .int (-1), .int 0, .ref m_vote, .int 0, .ref m_wasSaid, .int 0, .ref m_kept, .ref m_wanted, .ref m_chosenBy, .ref m_gone, .ref m_isFit, .ref m_bishopThen, .long 0, .ref m_images, .ref m_imageForce, .ref m_imageX, .ref m_isMade])), (m_tape, .inl (mk_tape, 400, .inl f))] sz) t) (va_A [(h0, .inr (12, [.ref m_tape, .int 4, .int 0, .ref m_sign, .ref m_length, .ref m_clause, .ref m_clauses, .ref m_read, .int 0, .int 0, .int 0, .int 0, .int 0, .int 0, .int 0, .ref m_open, .int 0, .ref m_stack, .int 0, .ref m_word, .ref m_said, .int (-1), .int 0, .ref m_vote, .int 0, .ref m_wasSaid, .int 0, .ref m_kept, .ref m_wanted, .ref m_chosenBy, .ref m_gone, .ref m_isFit, .ref m_bishopThen, .long 0, .ref m_images, .ref m_imageForce, .ref m_imageX, .ref m_isMade])), (m_tape, .inl (mk_tape, 400, .inl f))] sz)) 0 0 (va_A [(h0, .inr (12, [.ref m_tape, .int 4, .int 0, .ref m_sign, .ref m_length, .ref m_clause, .ref m_clauses, .ref m_read, .int 0, .int 0, .int 0, .int 0, .int 0, .int 0, .int 0, .ref m_open, .int 0, .ref m_stack, .int 0, .ref m_word, .ref m_said, .int (-1), .int 0, .ref m_vote, .int 0, .ref m_wasSaid, .int 0, .ref m_kept, .ref m_wanted, .ref m_chosenBy, .ref m_gone, .ref m_isFit, .ref m_bishopThen, .long 0, .ref m_images, .ref m_imageForce, .ref m_imageX, .ref m_isMade])), (m_tape, .inl (mk_tape, 400, .inl f))] sz) := by
  refine Met.ofW (cc := cX12_four) (maxL := 3) (ret := none) (by decide) rfl ?_
  intro p e s m args below meth c s₁ B hml hv
  obtain ⟨rfl, hsz, hP, hK, hD0, hE⟩ := hv
  have hx := B.exec
  have hb := B.bytes
  have hr := B.returns
  have hts0 := atoms_spec (ws := ws_u yX12_four cX12_four 3 none) B.pre
  have hts : ∀ w ∈ gT, w.before _ s = true := fun w h => hts0 w (List.mem_cons_of_mem _ h)
  have hown : s.vm.findClass RX12 = some m.cls := findClass_of_methodNamed B.named
  have hlocks := B.notSynchronized
  subst hsz
  have hD := hD0.self (sz := s.heap.size)
  generalize hAe : va_A [(h0, .inr (12, [.ref m_tape, .int 4, .int 0, .ref m_sign, .ref m_length, .ref m_clause, .ref m_clauses, .ref m_read, .int 0, .int 0, .int 0, .int 0, .int 0, .int 0, .int 0, .ref m_open, .int 0, .ref m_stack, .int 0, .ref m_word, .ref m_said, .int (-1), .int 0, .ref m_vote, .int 0, .ref m_wasSaid, .int 0, .ref m_kept, .ref m_wanted, .ref m_chosenBy, .ref m_gone, .ref m_isFit, .ref m_bishopThen, .long 0, .ref m_images, .ref m_imageForce, .ref m_imageX, .ref m_isMade])), (m_tape, .inl (mk_tape, 400, .inl f))] s.heap.size = A at hD ⊢
  have hA : ∀ q : Nat, s.heap.size ≤ q → A q := fun q h => by rw [← hAe]; exact Or.inr h
  have hS : va_S A s.heap s.heap [] := va_S.rf
  have hl := lv_entry ([.ref h0, .int a0]) (n := 3) (Nat.le_of_ble_eq_true rfl)
  rw [lg_entry_eq]
  generalize (lg_sl ([.ref h0, .int a0]) ++ List.replicate (3 - (lg_sl ([.ref h0, .int a0])).length) Slot.unset).toArray = ls at hl ⊢
  have hl : lv_has ls 3 [(0, .ref h0), (1, .int a0)] := hl
  have hP : va_P (dC, dI) vwCl [(h0, .inr (12, [.ref m_tape, .int 4, .int 0, .ref m_sign, .ref m_length, .ref m_clause, .ref m_clauses, .ref m_read, .int 0, .int 0, .int 0, .int 0, .int 0, .int 0, .int 0, .ref m_open, .int 0, .ref m_stack, .int 0, .ref m_word, .ref m_said, .int (-1), .int 0, .ref m_vote, .int 0, .ref m_wasSaid, .int 0, .ref m_kept, .ref m_wanted, .ref m_chosenBy, .ref m_gone, .ref m_isFit, .ref m_bishopThen, .long 0, .ref m_images, .ref m_imageForce, .ref m_imageX, .ref m_isMade])), (m_tape, .inl (mk_tape, 400, .inl f))] s.heap := hP
  try clear hAe
  refine lv_bipush (v := 24) hx hb dX12_four_0 (by decide) ?_
  refine lv_istore_n (lv' := [(2, .int 24), (0, .ref h0), (1, .int a0)]) hx hb dX12_four_2 rfl hl (by decide) rfl (fun ls hl => ?_)
  refine lv_iload_n hx hb dX12_four_3 rfl (lv_at hl 0 rfl) ?_
  refine lv_if_lt (tgt := 36) hx hb dX12_four_4 (by decide) (fun c_1 => absurd c_1 (by decide)) (fun c_1 => ?_)
  refine lv_aload_n hx hb dX12_four_7 rfl (lv_at hl 1 rfl) ?_
  refine va_get (D := (dC, dI)) (ci := 12) (v := .ref m_tape) (C := RX12) (T := TX12) (N := 38) hx hb hts iX12 hown hK hP 0 rfl rfl 0 (by decide) (hts _ tw_1125) (fun _ h9 => h9) rfl dX12_four_8 ?_
  refine lv_aload_n hx hb dX12_four_11 rfl (lv_at hl 1 rfl) ?_
  refine va_get (D := (dC, dI)) (ci := 12) (v := .int 4) (C := RX12) (T := TX12) (N := 38) hx hb hts iX12 hown hK hP 0 rfl rfl 1 (by decide) (hts _ tw_1126) (fun _ h9 => h9) rfl dX12_four_12 ?_
  refine lv_iload_n hx hb dX12_four_15 rfl (lv_at hl 2 rfl) ?_
  refine lv_iload_n hx hb dX12_four_16 rfl (lv_at hl 0 rfl) ?_
  refine lv_ishr hx hb dX12_four_17 ?_
  refine lv_topi (fun x_2 ex_2 => ?_)
  obtain ⟨x_3, ex_3⟩ : ∃ y : Int32, x_2.toInt8.toInt32 = y := ⟨_, rfl⟩
  refine lv_i2b (v := x_3) hx hb dX12_four_18 ex_3 ?_
  refine va_bast hx hb hK hP hD hS 1 0 rfl rfl (show vp_in 4 400 from (by decide : ¬ ((4 : Int32) < 0 ∨ 400 ≤ (4 : Int32).toNatClampNeg))) dX12_four_19 (fun H locs hP hD hS => ?_)
  have hP : va_P (dC, dI) vwCl [(h0, .inr (12, [.ref m_tape, .int 4, .int 0, .ref m_sign, .ref m_length, .ref m_clause, .ref m_clauses, .ref m_read, .int 0, .int 0, .int 0, .int 0, .int 0, .int 0, .int 0, .ref m_open, .int 0, .ref m_stack, .int 0, .ref m_word, .ref m_said, .int (-1), .int 0, .ref m_vote, .int 0, .ref m_wasSaid, .int 0, .ref m_kept, .ref m_wanted, .ref m_chosenBy, .ref m_gone, .ref m_isFit, .ref m_bishopThen, .long 0, .ref m_images, .ref m_imageForce, .ref m_imageX, .ref m_isMade])), (m_tape, .inl (mk_tape, 400, .inl (upd f (Int32.toNatClampNeg 4) (vp_nar .byte x_3))))] H := hP
  have hD : va_D A [(h0, .inr (12, [.ref m_tape, .int 4, .int 0, .ref m_sign, .ref m_length, .ref m_clause, .ref m_clauses, .ref m_read, .int 0, .int 0, .int 0, .int 0, .int 0, .int 0, .int 0, .ref m_open, .int 0, .ref m_stack, .int 0, .ref m_word, .ref m_said, .int (-1), .int 0, .ref m_vote, .int 0, .ref m_wasSaid, .int 0, .ref m_kept, .ref m_wanted, .ref m_chosenBy, .ref m_gone, .ref m_isFit, .ref m_bishopThen, .long 0, .ref m_images, .ref m_imageForce, .ref m_imageX, .ref m_isMade])), (m_tape, .inl (mk_tape, 400, .inl (upd f (Int32.toNatClampNeg 4) (vp_nar .byte x_3))))] := hD
  generalize upd f (Int32.toNatClampNeg 4) (vp_nar .byte x_3) = f_4 at hP hD
  refine lv_aload_n hx hb dX12_four_20 rfl (lv_at hl 1 rfl) ?_
  refine lv_dup hx hb dX12_four_21 rfl ?_
  refine va_get (D := (dC, dI)) (ci := 12) (v := .int 4) (C := RX12) (T := TX12) (N := 38) hx hb hts iX12 hown hK hP 0 rfl rfl 1 (by decide) (hts _ tw_1126) (fun _ h9 => h9) rfl dX12_four_22 ?_
  refine lv_iconst (v := 1) hx hb dX12_four_25 (by decide) ?_
  refine lv_iadd hx hb dX12_four_26 ?_
  refine lv_topi (fun x_5 ex_5 => ?_)
  obtain rfl : x_5 = 5 := ex_5.trans (by decide)
  refine va_put (D := (dC, dI)) (ci := 12) (v := .int 5) (C := RX12) (T := TX12) (N := 38) hx hb hts iX12 tyX12 tyX12_ok nmX12 hown hK hP hD hS 0 rfl rfl 1 (by decide) (hts _ tw_1126) (fun _ h9 => h9) rfl (tyX12_ok 1 (by decide)) rfl rfl (Nat.le_of_ble_eq_true rfl) dX12_four_27 (fun H locs hP hD hS => ?_)
  have hP : va_P (dC, dI) vwCl [(h0, .inr (12, [.ref m_tape, .int 5, .int 0, .ref m_sign, .ref m_length, .ref m_clause, .ref m_clauses, .ref m_read, .int 0, .int 0, .int 0, .int 0, .int 0, .int 0, .int 0, .ref m_open, .int 0, .ref m_stack, .int 0, .ref m_word, .ref m_said, .int (-1), .int 0, .ref m_vote, .int 0, .ref m_wasSaid, .int 0, .ref m_kept, .ref m_wanted, .ref m_chosenBy, .ref m_gone, .ref m_isFit, .ref m_bishopThen, .long 0, .ref m_images, .ref m_imageForce, .ref m_imageX, .ref m_isMade])), (m_tape, .inl (mk_tape, 400, .inl f_4))] H := hP
  have hD : va_D A [(h0, .inr (12, [.ref m_tape, .int 5, .int 0, .ref m_sign, .ref m_length, .ref m_clause, .ref m_clauses, .ref m_read, .int 0, .int 0, .int 0, .int 0, .int 0, .int 0, .int 0, .ref m_open, .int 0, .ref m_stack, .int 0, .ref m_word, .ref m_said, .int (-1), .int 0, .ref m_vote, .int 0, .ref m_wasSaid, .int 0, .ref m_kept, .ref m_wanted, .ref m_chosenBy, .ref m_gone, .ref m_isFit, .ref m_bishopThen, .long 0, .ref m_images, .ref m_imageForce, .ref m_imageX, .ref m_isMade])), (m_tape, .inl (mk_tape, 400, .inl f_4))] := hD
  refine lv_iinc (v := 16) (lv' := [(2, .int 16), (0, .ref h0), (1, .int a0)]) hx hb dX12_four_30 hl (k := 0) rfl (by decide) (by decide) rfl (fun ls hl => ?_)
  refine lv_goto (tgt := 3) hx hb dX12_four_33 (by decide) ?_
  refine lv_iload_n hx hb dX12_four_3 rfl (lv_at hl 0 rfl) ?_
  refine lv_if_lt (tgt := 36) hx hb dX12_four_4 (by decide) (fun c_6 => absurd c_6 (by decide)) (fun c_6 => ?_)
  refine lv_aload_n hx hb dX12_four_7 rfl (lv_at hl 1 rfl) ?_
  refine va_get (D := (dC, dI)) (ci := 12) (v := .ref m_tape) (C := RX12) (T := TX12) (N := 38) hx hb hts iX12 hown hK hP 0 rfl rfl 0 (by decide) (hts _ tw_1125) (fun _ h9 => h9) rfl dX12_four_8 ?_
  refine lv_aload_n hx hb dX12_four_11 rfl (lv_at hl 1 rfl) ?_
  refine va_get (D := (dC, dI)) (ci := 12) (v := .int 5) (C := RX12) (T := TX12) (N := 38) hx hb hts iX12 hown hK hP 0 rfl rfl 1 (by decide) (hts _ tw_1126) (fun _ h9 => h9) rfl dX12_four_12 ?_
  refine lv_iload_n hx hb dX12_four_15 rfl (lv_at hl 2 rfl) ?_
  refine lv_iload_n hx hb dX12_four_16 rfl (lv_at hl 0 rfl) ?_
  refine lv_ishr hx hb dX12_four_17 ?_
  refine lv_topi (fun x_7 ex_7 => ?_)
  obtain ⟨x_8, ex_8⟩ : ∃ y : Int32, x_7.toInt8.toInt32 = y := ⟨_, rfl⟩
  refine lv_i2b (v := x_8) hx hb dX12_four_18 ex_8 ?_
  refine va_bast hx hb hK hP hD hS 1 0 rfl rfl (show vp_in 5 400 from (by decide : ¬ ((5 : Int32) < 0 ∨ 400 ≤ (5 : Int32).toNatClampNeg))) dX12_four_19 (fun H locs hP hD hS => ?_)
  have hP : va_P (dC, dI) vwCl [(h0, .inr (12, [.ref m_tape, .int 5, .int 0, .ref m_sign, .ref m_length, .ref m_clause, .ref m_clauses, .ref m_read, .int 0, .int 0, .int 0, .int 0, .int 0, .int 0, .int 0, .ref m_open, .int 0, .ref m_stack, .int 0, .ref m_word, .ref m_said, .int (-1), .int 0, .ref m_vote, .int 0, .ref m_wasSaid, .int 0, .ref m_kept, .ref m_wanted, .ref m_chosenBy, .ref m_gone, .ref m_isFit, .ref m_bishopThen, .long 0, .ref m_images, .ref m_imageForce, .ref m_imageX, .ref m_isMade])), (m_tape, .inl (mk_tape, 400, .inl (upd f_4 (Int32.toNatClampNeg 5) (vp_nar .byte x_8))))] H := hP
  have hD : va_D A [(h0, .inr (12, [.ref m_tape, .int 5, .int 0, .ref m_sign, .ref m_length, .ref m_clause, .ref m_clauses, .ref m_read, .int 0, .int 0, .int 0, .int 0, .int 0, .int 0, .int 0, .ref m_open, .int 0, .ref m_stack, .int 0, .ref m_word, .ref m_said, .int (-1), .int 0, .ref m_vote, .int 0, .ref m_wasSaid, .int 0, .ref m_kept, .ref m_wanted, .ref m_chosenBy, .ref m_gone, .ref m_isFit, .ref m_bishopThen, .long 0, .ref m_images, .ref m_imageForce, .ref m_imageX, .ref m_isMade])), (m_tape, .inl (mk_tape, 400, .inl (upd f_4 (Int32.toNatClampNeg 5) (vp_nar .byte x_8))))] := hD
  generalize upd f_4 (Int32.toNatClampNeg 5) (vp_nar .byte x_8) = f_9 at hP hD
  refine lv_aload_n hx hb dX12_four_20 rfl (lv_at hl 1 rfl) ?_
  refine lv_dup hx hb dX12_four_21 rfl ?_
  refine va_get (D := (dC, dI)) (ci := 12) (v := .int 5) (C := RX12) (T := TX12) (N := 38) hx hb hts iX12 hown hK hP 0 rfl rfl 1 (by decide) (hts _ tw_1126) (fun _ h9 => h9) rfl dX12_four_22 ?_
  refine lv_iconst (v := 1) hx hb dX12_four_25 (by decide) ?_
  refine lv_iadd hx hb dX12_four_26 ?_
  refine lv_topi (fun x_10 ex_10 => ?_)
  obtain rfl : x_10 = 6 := ex_10.trans (by decide)
  refine va_put (D := (dC, dI)) (ci := 12) (v := .int 6) (C := RX12) (T := TX12) (N := 38) hx hb hts iX12 tyX12 tyX12_ok nmX12 hown hK hP hD hS 0 rfl rfl 1 (by decide) (hts _ tw_1126) (fun _ h9 => h9) rfl (tyX12_ok 1 (by decide)) rfl rfl (Nat.le_of_ble_eq_true rfl) dX12_four_27 (fun H locs hP hD hS => ?_)
  have hP : va_P (dC, dI) vwCl [(h0, .inr (12, [.ref m_tape, .int 6, .int 0, .ref m_sign, .ref m_length, .ref m_clause, .ref m_clauses, .ref m_read, .int 0, .int 0, .int 0, .int 0, .int 0, .int 0, .int 0, .ref m_open, .int 0, .ref m_stack, .int 0, .ref m_word, .ref m_said, .int (-1), .int 0, .ref m_vote, .int 0, .ref m_wasSaid, .int 0, .ref m_kept, .ref m_wanted, .ref m_chosenBy, .ref m_gone, .ref m_isFit, .ref m_bishopThen, .long 0, .ref m_images, .ref m_imageForce, .ref m_imageX, .ref m_isMade])), (m_tape, .inl (mk_tape, 400, .inl f_9))] H := hP
  have hD : va_D A [(h0, .inr (12, [.ref m_tape, .int 6, .int 0, .ref m_sign, .ref m_length, .ref m_clause, .ref m_clauses, .ref m_read, .int 0, .int 0, .int 0, .int 0, .int 0, .int 0, .int 0, .ref m_open, .int 0, .ref m_stack, .int 0, .ref m_word, .ref m_said, .int (-1), .int 0, .ref m_vote, .int 0, .ref m_wasSaid, .int 0, .ref m_kept, .ref m_wanted, .ref m_chosenBy, .ref m_gone, .ref m_isFit, .ref m_bishopThen, .long 0, .ref m_images, .ref m_imageForce, .ref m_imageX, .ref m_isMade])), (m_tape, .inl (mk_tape, 400, .inl f_9))] := hD
  refine lv_iinc (v := 8) (lv' := [(2, .int 8), (0, .ref h0), (1, .int a0)]) hx hb dX12_four_30 hl (k := 0) rfl (by decide) (by decide) rfl (fun ls hl => ?_)
  refine lv_goto (tgt := 3) hx hb dX12_four_33 (by decide) ?_
  refine lv_iload_n hx hb dX12_four_3 rfl (lv_at hl 0 rfl) ?_
  refine lv_if_lt (tgt := 36) hx hb dX12_four_4 (by decide) (fun c_11 => absurd c_11 (by decide)) (fun c_11 => ?_)
  refine lv_aload_n hx hb dX12_four_7 rfl (lv_at hl 1 rfl) ?_
  refine va_get (D := (dC, dI)) (ci := 12) (v := .ref m_tape) (C := RX12) (T := TX12) (N := 38) hx hb hts iX12 hown hK hP 0 rfl rfl 0 (by decide) (hts _ tw_1125) (fun _ h9 => h9) rfl dX12_four_8 ?_
  refine lv_aload_n hx hb dX12_four_11 rfl (lv_at hl 1 rfl) ?_
  refine va_get (D := (dC, dI)) (ci := 12) (v := .int 6) (C := RX12) (T := TX12) (N := 38) hx hb hts iX12 hown hK hP 0 rfl rfl 1 (by decide) (hts _ tw_1126) (fun _ h9 => h9) rfl dX12_four_12 ?_
  refine lv_iload_n hx hb dX12_four_15 rfl (lv_at hl 2 rfl) ?_
  refine lv_iload_n hx hb dX12_four_16 rfl (lv_at hl 0 rfl) ?_
  refine lv_ishr hx hb dX12_four_17 ?_
  refine lv_topi (fun x_12 ex_12 => ?_)
  obtain ⟨x_13, ex_13⟩ : ∃ y : Int32, x_12.toInt8.toInt32 = y := ⟨_, rfl⟩
  refine lv_i2b (v := x_13) hx hb dX12_four_18 ex_13 ?_
  refine va_bast hx hb hK hP hD hS 1 0 rfl rfl (show vp_in 6 400 from (by decide : ¬ ((6 : Int32) < 0 ∨ 400 ≤ (6 : Int32).toNatClampNeg))) dX12_four_19 (fun H locs hP hD hS => ?_)
  have hP : va_P (dC, dI) vwCl [(h0, .inr (12, [.ref m_tape, .int 6, .int 0, .ref m_sign, .ref m_length, .ref m_clause, .ref m_clauses, .ref m_read, .int 0, .int 0, .int 0, .int 0, .int 0, .int 0, .int 0, .ref m_open, .int 0, .ref m_stack, .int 0, .ref m_word, .ref m_said, .int (-1), .int 0, .ref m_vote, .int 0, .ref m_wasSaid, .int 0, .ref m_kept, .ref m_wanted, .ref m_chosenBy, .ref m_gone, .ref m_isFit, .ref m_bishopThen, .long 0, .ref m_images, .ref m_imageForce, .ref m_imageX, .ref m_isMade])), (m_tape, .inl (mk_tape, 400, .inl (upd f_9 (Int32.toNatClampNeg 6) (vp_nar .byte x_13))))] H := hP
  have hD : va_D A [(h0, .inr (12, [.ref m_tape, .int 6, .int 0, .ref m_sign, .ref m_length, .ref m_clause, .ref m_clauses, .ref m_read, .int 0, .int 0, .int 0, .int 0, .int 0, .int 0, .int 0, .ref m_open, .int 0, .ref m_stack, .int 0, .ref m_word, .ref m_said, .int (-1), .int 0, .ref m_vote, .int 0, .ref m_wasSaid, .int 0, .ref m_kept, .ref m_wanted, .ref m_chosenBy, .ref m_gone, .ref m_isFit, .ref m_bishopThen, .long 0, .ref m_images, .ref m_imageForce, .ref m_imageX, .ref m_isMade])), (m_tape, .inl (mk_tape, 400, .inl (upd f_9 (Int32.toNatClampNeg 6) (vp_nar .byte x_13))))] := hD
  generalize upd f_9 (Int32.toNatClampNeg 6) (vp_nar .byte x_13) = f_14 at hP hD
  refine lv_aload_n hx hb dX12_four_20 rfl (lv_at hl 1 rfl) ?_
  refine lv_dup hx hb dX12_four_21 rfl ?_
  refine va_get (D := (dC, dI)) (ci := 12) (v := .int 6) (C := RX12) (T := TX12) (N := 38) hx hb hts iX12 hown hK hP 0 rfl rfl 1 (by decide) (hts _ tw_1126) (fun _ h9 => h9) rfl dX12_four_22 ?_
  refine lv_iconst (v := 1) hx hb dX12_four_25 (by decide) ?_
  refine lv_iadd hx hb dX12_four_26 ?_
  refine lv_topi (fun x_15 ex_15 => ?_)
  obtain rfl : x_15 = 7 := ex_15.trans (by decide)
  refine va_put (D := (dC, dI)) (ci := 12) (v := .int 7) (C := RX12) (T := TX12) (N := 38) hx hb hts iX12 tyX12 tyX12_ok nmX12 hown hK hP hD hS 0 rfl rfl 1 (by decide) (hts _ tw_1126) (fun _ h9 => h9) rfl (tyX12_ok 1 (by decide)) rfl rfl (Nat.le_of_ble_eq_true rfl) dX12_four_27 (fun H locs hP hD hS => ?_)
  have hP : va_P (dC, dI) vwCl [(h0, .inr (12, [.ref m_tape, .int 7, .int 0, .ref m_sign, .ref m_length, .ref m_clause, .ref m_clauses, .ref m_read, .int 0, .int 0, .int 0, .int 0, .int 0, .int 0, .int 0, .ref m_open, .int 0, .ref m_stack, .int 0, .ref m_word, .ref m_said, .int (-1), .int 0, .ref m_vote, .int 0, .ref m_wasSaid, .int 0, .ref m_kept, .ref m_wanted, .ref m_chosenBy, .ref m_gone, .ref m_isFit, .ref m_bishopThen, .long 0, .ref m_images, .ref m_imageForce, .ref m_imageX, .ref m_isMade])), (m_tape, .inl (mk_tape, 400, .inl f_14))] H := hP
  have hD : va_D A [(h0, .inr (12, [.ref m_tape, .int 7, .int 0, .ref m_sign, .ref m_length, .ref m_clause, .ref m_clauses, .ref m_read, .int 0, .int 0, .int 0, .int 0, .int 0, .int 0, .int 0, .ref m_open, .int 0, .ref m_stack, .int 0, .ref m_word, .ref m_said, .int (-1), .int 0, .ref m_vote, .int 0, .ref m_wasSaid, .int 0, .ref m_kept, .ref m_wanted, .ref m_chosenBy, .ref m_gone, .ref m_isFit, .ref m_bishopThen, .long 0, .ref m_images, .ref m_imageForce, .ref m_imageX, .ref m_isMade])), (m_tape, .inl (mk_tape, 400, .inl f_14))] := hD
  refine lv_iinc (v := 0) (lv' := [(2, .int 0), (0, .ref h0), (1, .int a0)]) hx hb dX12_four_30 hl (k := 0) rfl (by decide) (by decide) rfl (fun ls hl => ?_)
  refine lv_goto (tgt := 3) hx hb dX12_four_33 (by decide) ?_
  refine lv_iload_n hx hb dX12_four_3 rfl (lv_at hl 0 rfl) ?_
  refine lv_if_lt (tgt := 36) hx hb dX12_four_4 (by decide) (fun c_16 => absurd c_16 (by decide)) (fun c_16 => ?_)
  refine lv_aload_n hx hb dX12_four_7 rfl (lv_at hl 1 rfl) ?_
  refine va_get (D := (dC, dI)) (ci := 12) (v := .ref m_tape) (C := RX12) (T := TX12) (N := 38) hx hb hts iX12 hown hK hP 0 rfl rfl 0 (by decide) (hts _ tw_1125) (fun _ h9 => h9) rfl dX12_four_8 ?_
  refine lv_aload_n hx hb dX12_four_11 rfl (lv_at hl 1 rfl) ?_
  refine va_get (D := (dC, dI)) (ci := 12) (v := .int 7) (C := RX12) (T := TX12) (N := 38) hx hb hts iX12 hown hK hP 0 rfl rfl 1 (by decide) (hts _ tw_1126) (fun _ h9 => h9) rfl dX12_four_12 ?_
  refine lv_iload_n hx hb dX12_four_15 rfl (lv_at hl 2 rfl) ?_
  refine lv_iload_n hx hb dX12_four_16 rfl (lv_at hl 0 rfl) ?_
  refine lv_ishr hx hb dX12_four_17 ?_
  refine lv_topi (fun x_17 ex_17 => ?_)
  obtain ⟨x_18, ex_18⟩ : ∃ y : Int32, x_17.toInt8.toInt32 = y := ⟨_, rfl⟩
  refine lv_i2b (v := x_18) hx hb dX12_four_18 ex_18 ?_
  refine va_bast hx hb hK hP hD hS 1 0 rfl rfl (show vp_in 7 400 from (by decide : ¬ ((7 : Int32) < 0 ∨ 400 ≤ (7 : Int32).toNatClampNeg))) dX12_four_19 (fun H locs hP hD hS => ?_)
  have hP : va_P (dC, dI) vwCl [(h0, .inr (12, [.ref m_tape, .int 7, .int 0, .ref m_sign, .ref m_length, .ref m_clause, .ref m_clauses, .ref m_read, .int 0, .int 0, .int 0, .int 0, .int 0, .int 0, .int 0, .ref m_open, .int 0, .ref m_stack, .int 0, .ref m_word, .ref m_said, .int (-1), .int 0, .ref m_vote, .int 0, .ref m_wasSaid, .int 0, .ref m_kept, .ref m_wanted, .ref m_chosenBy, .ref m_gone, .ref m_isFit, .ref m_bishopThen, .long 0, .ref m_images, .ref m_imageForce, .ref m_imageX, .ref m_isMade])), (m_tape, .inl (mk_tape, 400, .inl (upd f_14 (Int32.toNatClampNeg 7) (vp_nar .byte x_18))))] H := hP
  have hD : va_D A [(h0, .inr (12, [.ref m_tape, .int 7, .int 0, .ref m_sign, .ref m_length, .ref m_clause, .ref m_clauses, .ref m_read, .int 0, .int 0, .int 0, .int 0, .int 0, .int 0, .int 0, .ref m_open, .int 0, .ref m_stack, .int 0, .ref m_word, .ref m_said, .int (-1), .int 0, .ref m_vote, .int 0, .ref m_wasSaid, .int 0, .ref m_kept, .ref m_wanted, .ref m_chosenBy, .ref m_gone, .ref m_isFit, .ref m_bishopThen, .long 0, .ref m_images, .ref m_imageForce, .ref m_imageX, .ref m_isMade])), (m_tape, .inl (mk_tape, 400, .inl (upd f_14 (Int32.toNatClampNeg 7) (vp_nar .byte x_18))))] := hD
  generalize upd f_14 (Int32.toNatClampNeg 7) (vp_nar .byte x_18) = f_19 at hP hD
  refine lv_aload_n hx hb dX12_four_20 rfl (lv_at hl 1 rfl) ?_
  refine lv_dup hx hb dX12_four_21 rfl ?_
  refine va_get (D := (dC, dI)) (ci := 12) (v := .int 7) (C := RX12) (T := TX12) (N := 38) hx hb hts iX12 hown hK hP 0 rfl rfl 1 (by decide) (hts _ tw_1126) (fun _ h9 => h9) rfl dX12_four_22 ?_
  refine lv_iconst (v := 1) hx hb dX12_four_25 (by decide) ?_
  refine lv_iadd hx hb dX12_four_26 ?_
  refine lv_topi (fun x_20 ex_20 => ?_)
  obtain rfl : x_20 = 8 := ex_20.trans (by decide)
  refine va_put (D := (dC, dI)) (ci := 12) (v := .int 8) (C := RX12) (T := TX12) (N := 38) hx hb hts iX12 tyX12 tyX12_ok nmX12 hown hK hP hD hS 0 rfl rfl 1 (by decide) (hts _ tw_1126) (fun _ h9 => h9) rfl (tyX12_ok 1 (by decide)) rfl rfl (Nat.le_of_ble_eq_true rfl) dX12_four_27 (fun H locs hP hD hS => ?_)
  have hP : va_P (dC, dI) vwCl [(h0, .inr (12, [.ref m_tape, .int 8, .int 0, .ref m_sign, .ref m_length, .ref m_clause, .ref m_clauses, .ref m_read, .int 0, .int 0, .int 0, .int 0, .int 0, .int 0, .int 0, .ref m_open, .int 0, .ref m_stack, .int 0, .ref m_word, .ref m_said, .int (-1), .int 0, .ref m_vote, .int 0, .ref m_wasSaid, .int 0, .ref m_kept, .ref m_wanted, .ref m_chosenBy, .ref m_gone, .ref m_isFit, .ref m_bishopThen, .long 0, .ref m_images, .ref m_imageForce, .ref m_imageX, .ref m_isMade])), (m_tape, .inl (mk_tape, 400, .inl f_19))] H := hP
  have hD : va_D A [(h0, .inr (12, [.ref m_tape, .int 8, .int 0, .ref m_sign, .ref m_length, .ref m_clause, .ref m_clauses, .ref m_read, .int 0, .int 0, .int 0, .int 0, .int 0, .int 0, .int 0, .ref m_open, .int 0, .ref m_stack, .int 0, .ref m_word, .ref m_said, .int (-1), .int 0, .ref m_vote, .int 0, .ref m_wasSaid, .int 0, .ref m_kept, .ref m_wanted, .ref m_chosenBy, .ref m_gone, .ref m_isFit, .ref m_bishopThen, .long 0, .ref m_images, .ref m_imageForce, .ref m_imageX, .ref m_isMade])), (m_tape, .inl (mk_tape, 400, .inl f_19))] := hD
  refine lv_iinc (v := (-8)) (lv' := [(2, .int (-8)), (0, .ref h0), (1, .int a0)]) hx hb dX12_four_30 hl (k := 0) rfl (by decide) (by decide) rfl (fun ls hl => ?_)
  refine lv_goto (tgt := 3) hx hb dX12_four_33 (by decide) ?_
  refine lv_iload_n hx hb dX12_four_3 rfl (lv_at hl 0 rfl) ?_
  refine lv_if_lt (tgt := 36) hx hb dX12_four_4 (by decide) (fun c_21 => ?_) (fun c_21 => absurd (by decide) c_21)
  have hP9 := hP.sub (ws' := [(h0, .inr (12, [.ref m_tape, .int 8, .int 0, .ref m_sign, .ref m_length, .ref m_clause, .ref m_clauses, .ref m_read, .int 0, .int 0, .int 0, .int 0, .int 0, .int 0, .int 0, .ref m_open, .int 0, .ref m_stack, .int 0, .ref m_word, .ref m_said, .int (-1), .int 0, .ref m_vote, .int 0, .ref m_wasSaid, .int 0, .ref m_kept, .ref m_wanted, .ref m_chosenBy, .ref m_gone, .ref m_isFit, .ref m_bishopThen, .long 0, .ref m_images, .ref m_imageForce, .ref m_imageX, .ref m_isMade])), (m_tape, .inl (mk_tape, 400, .inl f_19))]) [0, 1] rfl
  have hD9 := hD.sub (ws' := [(h0, .inr (12, [.ref m_tape, .int 8, .int 0, .ref m_sign, .ref m_length, .ref m_clause, .ref m_clauses, .ref m_read, .int 0, .int 0, .int 0, .int 0, .int 0, .int 0, .int 0, .ref m_open, .int 0, .ref m_stack, .int 0, .ref m_word, .ref m_said, .int (-1), .int 0, .ref m_vote, .int 0, .ref m_wasSaid, .int 0, .ref m_kept, .ref m_wanted, .ref m_chosenBy, .ref m_gone, .ref m_isFit, .ref m_bishopThen, .long 0, .ref m_images, .ref m_imageForce, .ref m_imageX, .ref m_isMade])), (m_tape, .inl (mk_tape, 400, .inl f_19))]) [0, 1] (by decide) rfl
  have hK9 := hK.sub (tys' := [(mk_tape, .byte)]) [0] rfl
  refine W.widen (k := 0) (n := 0) (Nat.le_of_ble_eq_true rfl) (Nat.le_of_ble_eq_true rfl) ?_
  exact W.vret hx hb hr (fun t ht hW => ⟨⟨(), rfl, trivial, ⟨f_19, by rw [ht]; exact hP9, va_K.moved hW.alike hK9, hD9⟩⟩, hS.F ht⟩) hS.2.2 dX12_four_36
set_option maxHeartbeats 4000000 in
set_option maxRecDepth 100000 in
theorem m_four_8 (l : Launch) (dC : Nat → ClassId) (dI : Nat → Nat → Nat) (h0 : Nat) (m_tape : Nat) (m_sign : Nat) (m_length : Nat) (m_clause : Nat) (m_clauses : Nat) (m_read : Nat) (m_open : Nat) (m_stack : Nat) (m_word : Nat) (m_said : Nat) (m_vote : Nat) (m_wasSaid : Nat) (m_kept : Nat) (m_wanted : Nat) (m_chosenBy : Nat) (m_gone : Nat) (m_isFit : Nat) (m_bishopThen : Nat) (m_images : Nat) (m_imageForce : Nat) (m_imageX : Nat) (m_isMade : Nat) (mk_tape : ClassId) (f : Nat → Int32) (a0 : Int32) (sz : Nat) : Met l yX12_four (ws_u yX12_four cX12_four 3 none) ({ frames := 0, cells := 0, slots := 0, locals := 0 }) (va_Pc [.ref h0, .int a0] (cPre (dC, dI) [(mk_tape, .byte)] [(h0, .inr (12, [.ref m_tape, .int 8, .int 0, .ref m_sign, .ref m_length, .ref m_clause, .ref m_clauses, .ref m_read, .int 0, .int 0, .int 0, .int 0, .int 0, .int 0, .int 0, .ref m_open, .int 0, .ref m_stack, .int 0, .ref m_word, .ref m_said, .int (-1), .int 0, .ref m_vote, .int 0, .ref m_wasSaid, .int 0, .ref m_kept, .ref m_wanted, .ref m_chosenBy, .ref m_gone, .ref m_isFit, .ref m_bishopThen, .long 0, .ref m_images, .ref m_imageForce, .ref m_imageX, .ref m_isMade])), (m_tape, .inl (mk_tape, 400, .inl f))] sz)) (va_Qv (fun _ : Unit => True) (fun _ t => ∃ (g : Nat → Int32), cPost (dC, dI) [(mk_tape, .byte)] [(h0, .inr (12, [.ref m_tape, .int 12, .int 0, .ref m_sign, .ref m_length, .ref m_clause, .ref m_clauses, .ref m_read, .int 0, .int 0, .int 0, .int 0, .int 0, .int 0, .int 0, .ref m_open, .int 0, .ref m_stack, .int 0, .ref m_word, .ref m_said, .int (-1), .int 0, .ref m_vote, .int 0, .ref m_wasSaid, .int 0, .ref m_kept, .ref m_wanted, .ref m_chosenBy, .ref m_gone, .ref m_isFit, .ref m_bishopThen, .long 0, .ref m_images, .ref m_imageForce, .ref m_imageX, .ref m_isMade])), (m_tape, .inl (mk_tape, 400, .inl g))] (va_A [(h0, .inr (12, [.ref m_tape, .int 8, .int 0, .ref m_sign, .ref m_length, .ref m_clause, .ref m_clauses, .ref m_read, .int 0, .int 0, .int 0, .int 0, .int 0, .int 0, .int 0, .ref m_open, .int 0, .ref m_stack, .int 0, .ref m_word, .ref m_said, .int (-1), .int 0, .ref m_vote, .int 0, .ref m_wasSaid, .int 0, .ref m_kept, .ref m_wanted, .ref m_chosenBy, .ref m_gone, .ref m_isFit, .ref m_bishopThen, .long 0, .ref m_images, .ref m_imageForce, .ref m_imageX, .ref m_isMade])), (m_tape, .inl (mk_tape, 400, .inl f))] sz) t) (va_A [(h0, .inr (12, [.ref m_tape, .int 8, .int 0, .ref m_sign, .ref m_length, .ref m_clause, .ref m_clauses, .ref m_read, .int 0, .int 0, .int 0, .int 0, .int 0, .int 0, .int 0, .ref m_open, .int 0, .ref m_stack, .int 0, .ref m_word, .ref m_said, .int (-1), .int 0, .ref m_vote, .int 0, .ref m_wasSaid, .int 0, .ref m_kept, .ref m_wanted, .ref m_chosenBy, .ref m_gone, .ref m_isFit, .ref m_bishopThen, .long 0, .ref m_images, .ref m_imageForce, .ref m_imageX, .ref m_isMade])), (m_tape, .inl (mk_tape, 400, .inl f))] sz)) 0 0 (va_A [(h0, .inr (12, [.ref m_tape, .int 8, .int 0, .ref m_sign, .ref m_length, .ref m_clause, .ref m_clauses, .ref m_read, .int 0, .int 0, .int 0, .int 0, .int 0, .int 0, .int 0, .ref m_open, .int 0, .ref m_stack, .int 0, .ref m_word, .ref m_said, .int (-1), .int 0, .ref m_vote, .int 0, .ref m_wasSaid, .int 0, .ref m_kept, .ref m_wanted, .ref m_chosenBy, .ref m_gone, .ref m_isFit, .ref m_bishopThen, .long 0, .ref m_images, .ref m_imageForce, .ref m_imageX, .ref m_isMade])), (m_tape, .inl (mk_tape, 400, .inl f))] sz) := by
  refine Met.ofW (cc := cX12_four) (maxL := 3) (ret := none) (by decide) rfl ?_
  intro p e s m args below meth c s₁ B hml hv
  obtain ⟨rfl, hsz, hP, hK, hD0, hE⟩ := hv
  have hx := B.exec
  have hb := B.bytes
  have hr := B.returns
  have hts0 := atoms_spec (ws := ws_u yX12_four cX12_four 3 none) B.pre
  have hts : ∀ w ∈ gT, w.before _ s = true := fun w h => hts0 w (List.mem_cons_of_mem _ h)
  have hown : s.vm.findClass RX12 = some m.cls := findClass_of_methodNamed B.named
  have hlocks := B.notSynchronized
  subst hsz
  have hD := hD0.self (sz := s.heap.size)
  generalize hAe : va_A [(h0, .inr (12, [.ref m_tape, .int 8, .int 0, .ref m_sign, .ref m_length, .ref m_clause, .ref m_clauses, .ref m_read, .int 0, .int 0, .int 0, .int 0, .int 0, .int 0, .int 0, .ref m_open, .int 0, .ref m_stack, .int 0, .ref m_word, .ref m_said, .int (-1), .int 0, .ref m_vote, .int 0, .ref m_wasSaid, .int 0, .ref m_kept, .ref m_wanted, .ref m_chosenBy, .ref m_gone, .ref m_isFit, .ref m_bishopThen, .long 0, .ref m_images, .ref m_imageForce, .ref m_imageX, .ref m_isMade])), (m_tape, .inl (mk_tape, 400, .inl f))] s.heap.size = A at hD ⊢
  have hA : ∀ q : Nat, s.heap.size ≤ q → A q := fun q h => by rw [← hAe]; exact Or.inr h
  have hS : va_S A s.heap s.heap [] := va_S.rf
  have hl := lv_entry ([.ref h0, .int a0]) (n := 3) (Nat.le_of_ble_eq_true rfl)
  rw [lg_entry_eq]
  generalize (lg_sl ([.ref h0, .int a0]) ++ List.replicate (3 - (lg_sl ([.ref h0, .int a0])).length) Slot.unset).toArray = ls at hl ⊢
  have hl : lv_has ls 3 [(0, .ref h0), (1, .int a0)] := hl
  have hP : va_P (dC, dI) vwCl [(h0, .inr (12, [.ref m_tape, .int 8, .int 0, .ref m_sign, .ref m_length, .ref m_clause, .ref m_clauses, .ref m_read, .int 0, .int 0, .int 0, .int 0, .int 0, .int 0, .int 0, .ref m_open, .int 0, .ref m_stack, .int 0, .ref m_word, .ref m_said, .int (-1), .int 0, .ref m_vote, .int 0, .ref m_wasSaid, .int 0, .ref m_kept, .ref m_wanted, .ref m_chosenBy, .ref m_gone, .ref m_isFit, .ref m_bishopThen, .long 0, .ref m_images, .ref m_imageForce, .ref m_imageX, .ref m_isMade])), (m_tape, .inl (mk_tape, 400, .inl f))] s.heap := hP
  try clear hAe
  refine lv_bipush (v := 24) hx hb dX12_four_0 (by decide) ?_
  refine lv_istore_n (lv' := [(2, .int 24), (0, .ref h0), (1, .int a0)]) hx hb dX12_four_2 rfl hl (by decide) rfl (fun ls hl => ?_)
  refine lv_iload_n hx hb dX12_four_3 rfl (lv_at hl 0 rfl) ?_
  refine lv_if_lt (tgt := 36) hx hb dX12_four_4 (by decide) (fun c_1 => absurd c_1 (by decide)) (fun c_1 => ?_)
  refine lv_aload_n hx hb dX12_four_7 rfl (lv_at hl 1 rfl) ?_
  refine va_get (D := (dC, dI)) (ci := 12) (v := .ref m_tape) (C := RX12) (T := TX12) (N := 38) hx hb hts iX12 hown hK hP 0 rfl rfl 0 (by decide) (hts _ tw_1125) (fun _ h9 => h9) rfl dX12_four_8 ?_
  refine lv_aload_n hx hb dX12_four_11 rfl (lv_at hl 1 rfl) ?_
  refine va_get (D := (dC, dI)) (ci := 12) (v := .int 8) (C := RX12) (T := TX12) (N := 38) hx hb hts iX12 hown hK hP 0 rfl rfl 1 (by decide) (hts _ tw_1126) (fun _ h9 => h9) rfl dX12_four_12 ?_
  refine lv_iload_n hx hb dX12_four_15 rfl (lv_at hl 2 rfl) ?_
  refine lv_iload_n hx hb dX12_four_16 rfl (lv_at hl 0 rfl) ?_
  refine lv_ishr hx hb dX12_four_17 ?_
  refine lv_topi (fun x_2 ex_2 => ?_)
  obtain ⟨x_3, ex_3⟩ : ∃ y : Int32, x_2.toInt8.toInt32 = y := ⟨_, rfl⟩
  refine lv_i2b (v := x_3) hx hb dX12_four_18 ex_3 ?_
  refine va_bast hx hb hK hP hD hS 1 0 rfl rfl (show vp_in 8 400 from (by decide : ¬ ((8 : Int32) < 0 ∨ 400 ≤ (8 : Int32).toNatClampNeg))) dX12_four_19 (fun H locs hP hD hS => ?_)
  have hP : va_P (dC, dI) vwCl [(h0, .inr (12, [.ref m_tape, .int 8, .int 0, .ref m_sign, .ref m_length, .ref m_clause, .ref m_clauses, .ref m_read, .int 0, .int 0, .int 0, .int 0, .int 0, .int 0, .int 0, .ref m_open, .int 0, .ref m_stack, .int 0, .ref m_word, .ref m_said, .int (-1), .int 0, .ref m_vote, .int 0, .ref m_wasSaid, .int 0, .ref m_kept, .ref m_wanted, .ref m_chosenBy, .ref m_gone, .ref m_isFit, .ref m_bishopThen, .long 0, .ref m_images, .ref m_imageForce, .ref m_imageX, .ref m_isMade])), (m_tape, .inl (mk_tape, 400, .inl (upd f (Int32.toNatClampNeg 8) (vp_nar .byte x_3))))] H := hP
  have hD : va_D A [(h0, .inr (12, [.ref m_tape, .int 8, .int 0, .ref m_sign, .ref m_length, .ref m_clause, .ref m_clauses, .ref m_read, .int 0, .int 0, .int 0, .int 0, .int 0, .int 0, .int 0, .ref m_open, .int 0, .ref m_stack, .int 0, .ref m_word, .ref m_said, .int (-1), .int 0, .ref m_vote, .int 0, .ref m_wasSaid, .int 0, .ref m_kept, .ref m_wanted, .ref m_chosenBy, .ref m_gone, .ref m_isFit, .ref m_bishopThen, .long 0, .ref m_images, .ref m_imageForce, .ref m_imageX, .ref m_isMade])), (m_tape, .inl (mk_tape, 400, .inl (upd f (Int32.toNatClampNeg 8) (vp_nar .byte x_3))))] := hD
  generalize upd f (Int32.toNatClampNeg 8) (vp_nar .byte x_3) = f_4 at hP hD
  refine lv_aload_n hx hb dX12_four_20 rfl (lv_at hl 1 rfl) ?_
  refine lv_dup hx hb dX12_four_21 rfl ?_
  refine va_get (D := (dC, dI)) (ci := 12) (v := .int 8) (C := RX12) (T := TX12) (N := 38) hx hb hts iX12 hown hK hP 0 rfl rfl 1 (by decide) (hts _ tw_1126) (fun _ h9 => h9) rfl dX12_four_22 ?_
  refine lv_iconst (v := 1) hx hb dX12_four_25 (by decide) ?_
  refine lv_iadd hx hb dX12_four_26 ?_
  refine lv_topi (fun x_5 ex_5 => ?_)
  obtain rfl : x_5 = 9 := ex_5.trans (by decide)
  refine va_put (D := (dC, dI)) (ci := 12) (v := .int 9) (C := RX12) (T := TX12) (N := 38) hx hb hts iX12 tyX12 tyX12_ok nmX12 hown hK hP hD hS 0 rfl rfl 1 (by decide) (hts _ tw_1126) (fun _ h9 => h9) rfl (tyX12_ok 1 (by decide)) rfl rfl (Nat.le_of_ble_eq_true rfl) dX12_four_27 (fun H locs hP hD hS => ?_)
  have hP : va_P (dC, dI) vwCl [(h0, .inr (12, [.ref m_tape, .int 9, .int 0, .ref m_sign, .ref m_length, .ref m_clause, .ref m_clauses, .ref m_read, .int 0, .int 0, .int 0, .int 0, .int 0, .int 0, .int 0, .ref m_open, .int 0, .ref m_stack, .int 0, .ref m_word, .ref m_said, .int (-1), .int 0, .ref m_vote, .int 0, .ref m_wasSaid, .int 0, .ref m_kept, .ref m_wanted, .ref m_chosenBy, .ref m_gone, .ref m_isFit, .ref m_bishopThen, .long 0, .ref m_images, .ref m_imageForce, .ref m_imageX, .ref m_isMade])), (m_tape, .inl (mk_tape, 400, .inl f_4))] H := hP
  have hD : va_D A [(h0, .inr (12, [.ref m_tape, .int 9, .int 0, .ref m_sign, .ref m_length, .ref m_clause, .ref m_clauses, .ref m_read, .int 0, .int 0, .int 0, .int 0, .int 0, .int 0, .int 0, .ref m_open, .int 0, .ref m_stack, .int 0, .ref m_word, .ref m_said, .int (-1), .int 0, .ref m_vote, .int 0, .ref m_wasSaid, .int 0, .ref m_kept, .ref m_wanted, .ref m_chosenBy, .ref m_gone, .ref m_isFit, .ref m_bishopThen, .long 0, .ref m_images, .ref m_imageForce, .ref m_imageX, .ref m_isMade])), (m_tape, .inl (mk_tape, 400, .inl f_4))] := hD
  refine lv_iinc (v := 16) (lv' := [(2, .int 16), (0, .ref h0), (1, .int a0)]) hx hb dX12_four_30 hl (k := 0) rfl (by decide) (by decide) rfl (fun ls hl => ?_)
  refine lv_goto (tgt := 3) hx hb dX12_four_33 (by decide) ?_
  refine lv_iload_n hx hb dX12_four_3 rfl (lv_at hl 0 rfl) ?_
  refine lv_if_lt (tgt := 36) hx hb dX12_four_4 (by decide) (fun c_6 => absurd c_6 (by decide)) (fun c_6 => ?_)
  refine lv_aload_n hx hb dX12_four_7 rfl (lv_at hl 1 rfl) ?_
  refine va_get (D := (dC, dI)) (ci := 12) (v := .ref m_tape) (C := RX12) (T := TX12) (N := 38) hx hb hts iX12 hown hK hP 0 rfl rfl 0 (by decide) (hts _ tw_1125) (fun _ h9 => h9) rfl dX12_four_8 ?_
  refine lv_aload_n hx hb dX12_four_11 rfl (lv_at hl 1 rfl) ?_
  refine va_get (D := (dC, dI)) (ci := 12) (v := .int 9) (C := RX12) (T := TX12) (N := 38) hx hb hts iX12 hown hK hP 0 rfl rfl 1 (by decide) (hts _ tw_1126) (fun _ h9 => h9) rfl dX12_four_12 ?_
  refine lv_iload_n hx hb dX12_four_15 rfl (lv_at hl 2 rfl) ?_
  refine lv_iload_n hx hb dX12_four_16 rfl (lv_at hl 0 rfl) ?_
  refine lv_ishr hx hb dX12_four_17 ?_
  refine lv_topi (fun x_7 ex_7 => ?_)
  obtain ⟨x_8, ex_8⟩ : ∃ y : Int32, x_7.toInt8.toInt32 = y := ⟨_, rfl⟩
  refine lv_i2b (v := x_8) hx hb dX12_four_18 ex_8 ?_
  refine va_bast hx hb hK hP hD hS 1 0 rfl rfl (show vp_in 9 400 from (by decide : ¬ ((9 : Int32) < 0 ∨ 400 ≤ (9 : Int32).toNatClampNeg))) dX12_four_19 (fun H locs hP hD hS => ?_)
  have hP : va_P (dC, dI) vwCl [(h0, .inr (12, [.ref m_tape, .int 9, .int 0, .ref m_sign, .ref m_length, .ref m_clause, .ref m_clauses, .ref m_read, .int 0, .int 0, .int 0, .int 0, .int 0, .int 0, .int 0, .ref m_open, .int 0, .ref m_stack, .int 0, .ref m_word, .ref m_said, .int (-1), .int 0, .ref m_vote, .int 0, .ref m_wasSaid, .int 0, .ref m_kept, .ref m_wanted, .ref m_chosenBy, .ref m_gone, .ref m_isFit, .ref m_bishopThen, .long 0, .ref m_images, .ref m_imageForce, .ref m_imageX, .ref m_isMade])), (m_tape, .inl (mk_tape, 400, .inl (upd f_4 (Int32.toNatClampNeg 9) (vp_nar .byte x_8))))] H := hP
  have hD : va_D A [(h0, .inr (12, [.ref m_tape, .int 9, .int 0, .ref m_sign, .ref m_length, .ref m_clause, .ref m_clauses, .ref m_read, .int 0, .int 0, .int 0, .int 0, .int 0, .int 0, .int 0, .ref m_open, .int 0, .ref m_stack, .int 0, .ref m_word, .ref m_said, .int (-1), .int 0, .ref m_vote, .int 0, .ref m_wasSaid, .int 0, .ref m_kept, .ref m_wanted, .ref m_chosenBy, .ref m_gone, .ref m_isFit, .ref m_bishopThen, .long 0, .ref m_images, .ref m_imageForce, .ref m_imageX, .ref m_isMade])), (m_tape, .inl (mk_tape, 400, .inl (upd f_4 (Int32.toNatClampNeg 9) (vp_nar .byte x_8))))] := hD
  generalize upd f_4 (Int32.toNatClampNeg 9) (vp_nar .byte x_8) = f_9 at hP hD
  refine lv_aload_n hx hb dX12_four_20 rfl (lv_at hl 1 rfl) ?_
  refine lv_dup hx hb dX12_four_21 rfl ?_
  refine va_get (D := (dC, dI)) (ci := 12) (v := .int 9) (C := RX12) (T := TX12) (N := 38) hx hb hts iX12 hown hK hP 0 rfl rfl 1 (by decide) (hts _ tw_1126) (fun _ h9 => h9) rfl dX12_four_22 ?_
  refine lv_iconst (v := 1) hx hb dX12_four_25 (by decide) ?_
  refine lv_iadd hx hb dX12_four_26 ?_
  refine lv_topi (fun x_10 ex_10 => ?_)
  obtain rfl : x_10 = 10 := ex_10.trans (by decide)
  refine va_put (D := (dC, dI)) (ci := 12) (v := .int 10) (C := RX12) (T := TX12) (N := 38) hx hb hts iX12 tyX12 tyX12_ok nmX12 hown hK hP hD hS 0 rfl rfl 1 (by decide) (hts _ tw_1126) (fun _ h9 => h9) rfl (tyX12_ok 1 (by decide)) rfl rfl (Nat.le_of_ble_eq_true rfl) dX12_four_27 (fun H locs hP hD hS => ?_)
  have hP : va_P (dC, dI) vwCl [(h0, .inr (12, [.ref m_tape, .int 10, .int 0, .ref m_sign, .ref m_length, .ref m_clause, .ref m_clauses, .ref m_read, .int 0, .int 0, .int 0, .int 0, .int 0, .int 0, .int 0, .ref m_open, .int 0, .ref m_stack, .int 0, .ref m_word, .ref m_said, .int (-1), .int 0, .ref m_vote, .int 0, .ref m_wasSaid, .int 0, .ref m_kept, .ref m_wanted, .ref m_chosenBy, .ref m_gone, .ref m_isFit, .ref m_bishopThen, .long 0, .ref m_images, .ref m_imageForce, .ref m_imageX, .ref m_isMade])), (m_tape, .inl (mk_tape, 400, .inl f_9))] H := hP
  have hD : va_D A [(h0, .inr (12, [.ref m_tape, .int 10, .int 0, .ref m_sign, .ref m_length, .ref m_clause, .ref m_clauses, .ref m_read, .int 0, .int 0, .int 0, .int 0, .int 0, .int 0, .int 0, .ref m_open, .int 0, .ref m_stack, .int 0, .ref m_word, .ref m_said, .int (-1), .int 0, .ref m_vote, .int 0, .ref m_wasSaid, .int 0, .ref m_kept, .ref m_wanted, .ref m_chosenBy, .ref m_gone, .ref m_isFit, .ref m_bishopThen, .long 0, .ref m_images, .ref m_imageForce, .ref m_imageX, .ref m_isMade])), (m_tape, .inl (mk_tape, 400, .inl f_9))] := hD
  refine lv_iinc (v := 8) (lv' := [(2, .int 8), (0, .ref h0), (1, .int a0)]) hx hb dX12_four_30 hl (k := 0) rfl (by decide) (by decide) rfl (fun ls hl => ?_)
  refine lv_goto (tgt := 3) hx hb dX12_four_33 (by decide) ?_
  refine lv_iload_n hx hb dX12_four_3 rfl (lv_at hl 0 rfl) ?_
  refine lv_if_lt (tgt := 36) hx hb dX12_four_4 (by decide) (fun c_11 => absurd c_11 (by decide)) (fun c_11 => ?_)
  refine lv_aload_n hx hb dX12_four_7 rfl (lv_at hl 1 rfl) ?_
  refine va_get (D := (dC, dI)) (ci := 12) (v := .ref m_tape) (C := RX12) (T := TX12) (N := 38) hx hb hts iX12 hown hK hP 0 rfl rfl 0 (by decide) (hts _ tw_1125) (fun _ h9 => h9) rfl dX12_four_8 ?_
  refine lv_aload_n hx hb dX12_four_11 rfl (lv_at hl 1 rfl) ?_
  refine va_get (D := (dC, dI)) (ci := 12) (v := .int 10) (C := RX12) (T := TX12) (N := 38) hx hb hts iX12 hown hK hP 0 rfl rfl 1 (by decide) (hts _ tw_1126) (fun _ h9 => h9) rfl dX12_four_12 ?_
  refine lv_iload_n hx hb dX12_four_15 rfl (lv_at hl 2 rfl) ?_
  refine lv_iload_n hx hb dX12_four_16 rfl (lv_at hl 0 rfl) ?_
  refine lv_ishr hx hb dX12_four_17 ?_
  refine lv_topi (fun x_12 ex_12 => ?_)
  obtain ⟨x_13, ex_13⟩ : ∃ y : Int32, x_12.toInt8.toInt32 = y := ⟨_, rfl⟩
  refine lv_i2b (v := x_13) hx hb dX12_four_18 ex_13 ?_
  refine va_bast hx hb hK hP hD hS 1 0 rfl rfl (show vp_in 10 400 from (by decide : ¬ ((10 : Int32) < 0 ∨ 400 ≤ (10 : Int32).toNatClampNeg))) dX12_four_19 (fun H locs hP hD hS => ?_)
  have hP : va_P (dC, dI) vwCl [(h0, .inr (12, [.ref m_tape, .int 10, .int 0, .ref m_sign, .ref m_length, .ref m_clause, .ref m_clauses, .ref m_read, .int 0, .int 0, .int 0, .int 0, .int 0, .int 0, .int 0, .ref m_open, .int 0, .ref m_stack, .int 0, .ref m_word, .ref m_said, .int (-1), .int 0, .ref m_vote, .int 0, .ref m_wasSaid, .int 0, .ref m_kept, .ref m_wanted, .ref m_chosenBy, .ref m_gone, .ref m_isFit, .ref m_bishopThen, .long 0, .ref m_images, .ref m_imageForce, .ref m_imageX, .ref m_isMade])), (m_tape, .inl (mk_tape, 400, .inl (upd f_9 (Int32.toNatClampNeg 10) (vp_nar .byte x_13))))] H := hP
  have hD : va_D A [(h0, .inr (12, [.ref m_tape, .int 10, .int 0, .ref m_sign, .ref m_length, .ref m_clause, .ref m_clauses, .ref m_read, .int 0, .int 0, .int 0, .int 0, .int 0, .int 0, .int 0, .ref m_open, .int 0, .ref m_stack, .int 0, .ref m_word, .ref m_said, .int (-1), .int 0, .ref m_vote, .int 0, .ref m_wasSaid, .int 0, .ref m_kept, .ref m_wanted, .ref m_chosenBy, .ref m_gone, .ref m_isFit, .ref m_bishopThen, .long 0, .ref m_images, .ref m_imageForce, .ref m_imageX, .ref m_isMade])), (m_tape, .inl (mk_tape, 400, .inl (upd f_9 (Int32.toNatClampNeg 10) (vp_nar .byte x_13))))] := hD
  generalize upd f_9 (Int32.toNatClampNeg 10) (vp_nar .byte x_13) = f_14 at hP hD
  refine lv_aload_n hx hb dX12_four_20 rfl (lv_at hl 1 rfl) ?_
  refine lv_dup hx hb dX12_four_21 rfl ?_
  refine va_get (D := (dC, dI)) (ci := 12) (v := .int 10) (C := RX12) (T := TX12) (N := 38) hx hb hts iX12 hown hK hP 0 rfl rfl 1 (by decide) (hts _ tw_1126) (fun _ h9 => h9) rfl dX12_four_22 ?_
  refine lv_iconst (v := 1) hx hb dX12_four_25 (by decide) ?_
  refine lv_iadd hx hb dX12_four_26 ?_
  refine lv_topi (fun x_15 ex_15 => ?_)
  obtain rfl : x_15 = 11 := ex_15.trans (by decide)
  refine va_put (D := (dC, dI)) (ci := 12) (v := .int 11) (C := RX12) (T := TX12) (N := 38) hx hb hts iX12 tyX12 tyX12_ok nmX12 hown hK hP hD hS 0 rfl rfl 1 (by decide) (hts _ tw_1126) (fun _ h9 => h9) rfl (tyX12_ok 1 (by decide)) rfl rfl (Nat.le_of_ble_eq_true rfl) dX12_four_27 (fun H locs hP hD hS => ?_)
  have hP : va_P (dC, dI) vwCl [(h0, .inr (12, [.ref m_tape, .int 11, .int 0, .ref m_sign, .ref m_length, .ref m_clause, .ref m_clauses, .ref m_read, .int 0, .int 0, .int 0, .int 0, .int 0, .int 0, .int 0, .ref m_open, .int 0, .ref m_stack, .int 0, .ref m_word, .ref m_said, .int (-1), .int 0, .ref m_vote, .int 0, .ref m_wasSaid, .int 0, .ref m_kept, .ref m_wanted, .ref m_chosenBy, .ref m_gone, .ref m_isFit, .ref m_bishopThen, .long 0, .ref m_images, .ref m_imageForce, .ref m_imageX, .ref m_isMade])), (m_tape, .inl (mk_tape, 400, .inl f_14))] H := hP
  have hD : va_D A [(h0, .inr (12, [.ref m_tape, .int 11, .int 0, .ref m_sign, .ref m_length, .ref m_clause, .ref m_clauses, .ref m_read, .int 0, .int 0, .int 0, .int 0, .int 0, .int 0, .int 0, .ref m_open, .int 0, .ref m_stack, .int 0, .ref m_word, .ref m_said, .int (-1), .int 0, .ref m_vote, .int 0, .ref m_wasSaid, .int 0, .ref m_kept, .ref m_wanted, .ref m_chosenBy, .ref m_gone, .ref m_isFit, .ref m_bishopThen, .long 0, .ref m_images, .ref m_imageForce, .ref m_imageX, .ref m_isMade])), (m_tape, .inl (mk_tape, 400, .inl f_14))] := hD
  refine lv_iinc (v := 0) (lv' := [(2, .int 0), (0, .ref h0), (1, .int a0)]) hx hb dX12_four_30 hl (k := 0) rfl (by decide) (by decide) rfl (fun ls hl => ?_)
  refine lv_goto (tgt := 3) hx hb dX12_four_33 (by decide) ?_
  refine lv_iload_n hx hb dX12_four_3 rfl (lv_at hl 0 rfl) ?_
  refine lv_if_lt (tgt := 36) hx hb dX12_four_4 (by decide) (fun c_16 => absurd c_16 (by decide)) (fun c_16 => ?_)
  refine lv_aload_n hx hb dX12_four_7 rfl (lv_at hl 1 rfl) ?_
  refine va_get (D := (dC, dI)) (ci := 12) (v := .ref m_tape) (C := RX12) (T := TX12) (N := 38) hx hb hts iX12 hown hK hP 0 rfl rfl 0 (by decide) (hts _ tw_1125) (fun _ h9 => h9) rfl dX12_four_8 ?_
  refine lv_aload_n hx hb dX12_four_11 rfl (lv_at hl 1 rfl) ?_
  refine va_get (D := (dC, dI)) (ci := 12) (v := .int 11) (C := RX12) (T := TX12) (N := 38) hx hb hts iX12 hown hK hP 0 rfl rfl 1 (by decide) (hts _ tw_1126) (fun _ h9 => h9) rfl dX12_four_12 ?_
  refine lv_iload_n hx hb dX12_four_15 rfl (lv_at hl 2 rfl) ?_
  refine lv_iload_n hx hb dX12_four_16 rfl (lv_at hl 0 rfl) ?_
  refine lv_ishr hx hb dX12_four_17 ?_
  refine lv_topi (fun x_17 ex_17 => ?_)
  obtain ⟨x_18, ex_18⟩ : ∃ y : Int32, x_17.toInt8.toInt32 = y := ⟨_, rfl⟩
  refine lv_i2b (v := x_18) hx hb dX12_four_18 ex_18 ?_
  refine va_bast hx hb hK hP hD hS 1 0 rfl rfl (show vp_in 11 400 from (by decide : ¬ ((11 : Int32) < 0 ∨ 400 ≤ (11 : Int32).toNatClampNeg))) dX12_four_19 (fun H locs hP hD hS => ?_)
  have hP : va_P (dC, dI) vwCl [(h0, .inr (12, [.ref m_tape, .int 11, .int 0, .ref m_sign, .ref m_length, .ref m_clause, .ref m_clauses, .ref m_read, .int 0, .int 0, .int 0, .int 0, .int 0, .int 0, .int 0, .ref m_open, .int 0, .ref m_stack, .int 0, .ref m_word, .ref m_said, .int (-1), .int 0, .ref m_vote, .int 0, .ref m_wasSaid, .int 0, .ref m_kept, .ref m_wanted, .ref m_chosenBy, .ref m_gone, .ref m_isFit, .ref m_bishopThen, .long 0, .ref m_images, .ref m_imageForce, .ref m_imageX, .ref m_isMade])), (m_tape, .inl (mk_tape, 400, .inl (upd f_14 (Int32.toNatClampNeg 11) (vp_nar .byte x_18))))] H := hP
  have hD : va_D A [(h0, .inr (12, [.ref m_tape, .int 11, .int 0, .ref m_sign, .ref m_length, .ref m_clause, .ref m_clauses, .ref m_read, .int 0, .int 0, .int 0, .int 0, .int 0, .int 0, .int 0, .ref m_open, .int 0, .ref m_stack, .int 0, .ref m_word, .ref m_said, .int (-1), .int 0, .ref m_vote, .int 0, .ref m_wasSaid, .int 0, .ref m_kept, .ref m_wanted, .ref m_chosenBy, .ref m_gone, .ref m_isFit, .ref m_bishopThen, .long 0, .ref m_images, .ref m_imageForce, .ref m_imageX, .ref m_isMade])), (m_tape, .inl (mk_tape, 400, .inl (upd f_14 (Int32.toNatClampNeg 11) (vp_nar .byte x_18))))] := hD
  generalize upd f_14 (Int32.toNatClampNeg 11) (vp_nar .byte x_18) = f_19 at hP hD
  refine lv_aload_n hx hb dX12_four_20 rfl (lv_at hl 1 rfl) ?_
  refine lv_dup hx hb dX12_four_21 rfl ?_
  refine va_get (D := (dC, dI)) (ci := 12) (v := .int 11) (C := RX12) (T := TX12) (N := 38) hx hb hts iX12 hown hK hP 0 rfl rfl 1 (by decide) (hts _ tw_1126) (fun _ h9 => h9) rfl dX12_four_22 ?_
  refine lv_iconst (v := 1) hx hb dX12_four_25 (by decide) ?_
  refine lv_iadd hx hb dX12_four_26 ?_
  refine lv_topi (fun x_20 ex_20 => ?_)
  obtain rfl : x_20 = 12 := ex_20.trans (by decide)
  refine va_put (D := (dC, dI)) (ci := 12) (v := .int 12) (C := RX12) (T := TX12) (N := 38) hx hb hts iX12 tyX12 tyX12_ok nmX12 hown hK hP hD hS 0 rfl rfl 1 (by decide) (hts _ tw_1126) (fun _ h9 => h9) rfl (tyX12_ok 1 (by decide)) rfl rfl (Nat.le_of_ble_eq_true rfl) dX12_four_27 (fun H locs hP hD hS => ?_)
  have hP : va_P (dC, dI) vwCl [(h0, .inr (12, [.ref m_tape, .int 12, .int 0, .ref m_sign, .ref m_length, .ref m_clause, .ref m_clauses, .ref m_read, .int 0, .int 0, .int 0, .int 0, .int 0, .int 0, .int 0, .ref m_open, .int 0, .ref m_stack, .int 0, .ref m_word, .ref m_said, .int (-1), .int 0, .ref m_vote, .int 0, .ref m_wasSaid, .int 0, .ref m_kept, .ref m_wanted, .ref m_chosenBy, .ref m_gone, .ref m_isFit, .ref m_bishopThen, .long 0, .ref m_images, .ref m_imageForce, .ref m_imageX, .ref m_isMade])), (m_tape, .inl (mk_tape, 400, .inl f_19))] H := hP
  have hD : va_D A [(h0, .inr (12, [.ref m_tape, .int 12, .int 0, .ref m_sign, .ref m_length, .ref m_clause, .ref m_clauses, .ref m_read, .int 0, .int 0, .int 0, .int 0, .int 0, .int 0, .int 0, .ref m_open, .int 0, .ref m_stack, .int 0, .ref m_word, .ref m_said, .int (-1), .int 0, .ref m_vote, .int 0, .ref m_wasSaid, .int 0, .ref m_kept, .ref m_wanted, .ref m_chosenBy, .ref m_gone, .ref m_isFit, .ref m_bishopThen, .long 0, .ref m_images, .ref m_imageForce, .ref m_imageX, .ref m_isMade])), (m_tape, .inl (mk_tape, 400, .inl f_19))] := hD
  refine lv_iinc (v := (-8)) (lv' := [(2, .int (-8)), (0, .ref h0), (1, .int a0)]) hx hb dX12_four_30 hl (k := 0) rfl (by decide) (by decide) rfl (fun ls hl => ?_)
  refine lv_goto (tgt := 3) hx hb dX12_four_33 (by decide) ?_
  refine lv_iload_n hx hb dX12_four_3 rfl (lv_at hl 0 rfl) ?_
  refine lv_if_lt (tgt := 36) hx hb dX12_four_4 (by decide) (fun c_21 => ?_) (fun c_21 => absurd (by decide) c_21)
  have hP9 := hP.sub (ws' := [(h0, .inr (12, [.ref m_tape, .int 12, .int 0, .ref m_sign, .ref m_length, .ref m_clause, .ref m_clauses, .ref m_read, .int 0, .int 0, .int 0, .int 0, .int 0, .int 0, .int 0, .ref m_open, .int 0, .ref m_stack, .int 0, .ref m_word, .ref m_said, .int (-1), .int 0, .ref m_vote, .int 0, .ref m_wasSaid, .int 0, .ref m_kept, .ref m_wanted, .ref m_chosenBy, .ref m_gone, .ref m_isFit, .ref m_bishopThen, .long 0, .ref m_images, .ref m_imageForce, .ref m_imageX, .ref m_isMade])), (m_tape, .inl (mk_tape, 400, .inl f_19))]) [0, 1] rfl
  have hD9 := hD.sub (ws' := [(h0, .inr (12, [.ref m_tape, .int 12, .int 0, .ref m_sign, .ref m_length, .ref m_clause, .ref m_clauses, .ref m_read, .int 0, .int 0, .int 0, .int 0, .int 0, .int 0, .int 0, .ref m_open, .int 0, .ref m_stack, .int 0, .ref m_word, .ref m_said, .int (-1), .int 0, .ref m_vote, .int 0, .ref m_wasSaid, .int 0, .ref m_kept, .ref m_wanted, .ref m_chosenBy, .ref m_gone, .ref m_isFit, .ref m_bishopThen, .long 0, .ref m_images, .ref m_imageForce, .ref m_imageX, .ref m_isMade])), (m_tape, .inl (mk_tape, 400, .inl f_19))]) [0, 1] (by decide) rfl
  have hK9 := hK.sub (tys' := [(mk_tape, .byte)]) [0] rfl
  refine W.widen (k := 0) (n := 0) (Nat.le_of_ble_eq_true rfl) (Nat.le_of_ble_eq_true rfl) ?_
  exact W.vret hx hb hr (fun t ht hW => ⟨⟨(), rfl, trivial, ⟨f_19, by rw [ht]; exact hP9, va_K.moved hW.alike hK9, hD9⟩⟩, hS.F ht⟩) hS.2.2 dX12_four_36
set_option maxHeartbeats 4000000 in
set_option maxRecDepth 100000 in
theorem m_four_12 (l : Launch) (dC : Nat → ClassId) (dI : Nat → Nat → Nat) (h0 : Nat) (m_tape : Nat) (m_sign : Nat) (m_length : Nat) (m_clause : Nat) (m_clauses : Nat) (m_read : Nat) (m_open : Nat) (m_stack : Nat) (m_word : Nat) (m_said : Nat) (m_vote : Nat) (m_wasSaid : Nat) (m_kept : Nat) (m_wanted : Nat) (m_chosenBy : Nat) (m_gone : Nat) (m_isFit : Nat) (m_bishopThen : Nat) (m_images : Nat) (m_imageForce : Nat) (m_imageX : Nat) (m_isMade : Nat) (mk_tape : ClassId) (f : Nat → Int32) (a0 : Int32) (sz : Nat) : Met l yX12_four (ws_u yX12_four cX12_four 3 none) ({ frames := 0, cells := 0, slots := 0, locals := 0 }) (va_Pc [.ref h0, .int a0] (cPre (dC, dI) [(mk_tape, .byte)] [(h0, .inr (12, [.ref m_tape, .int 12, .int 0, .ref m_sign, .ref m_length, .ref m_clause, .ref m_clauses, .ref m_read, .int 0, .int 0, .int 0, .int 0, .int 0, .int 0, .int 0, .ref m_open, .int 0, .ref m_stack, .int 0, .ref m_word, .ref m_said, .int (-1), .int 0, .ref m_vote, .int 0, .ref m_wasSaid, .int 0, .ref m_kept, .ref m_wanted, .ref m_chosenBy, .ref m_gone, .ref m_isFit, .ref m_bishopThen, .long 0, .ref m_images, .ref m_imageForce, .ref m_imageX, .ref m_isMade])), (m_tape, .inl (mk_tape, 400, .inl f))] sz)) (va_Qv (fun _ : Unit => True) (fun _ t => ∃ (g : Nat → Int32), cPost (dC, dI) [(mk_tape, .byte)] [(h0, .inr (12, [.ref m_tape, .int 16, .int 0, .ref m_sign, .ref m_length, .ref m_clause, .ref m_clauses, .ref m_read, .int 0, .int 0, .int 0, .int 0, .int 0, .int 0, .int 0, .ref m_open, .int 0, .ref m_stack, .int 0, .ref m_word, .ref m_said, .int (-1), .int 0, .ref m_vote, .int 0, .ref m_wasSaid, .int 0, .ref m_kept, .ref m_wanted, .ref m_chosenBy, .ref m_gone, .ref m_isFit, .ref m_bishopThen, .long 0, .ref m_images, .ref m_imageForce, .ref m_imageX, .ref m_isMade])), (m_tape, .inl (mk_tape, 400, .inl g))] (va_A [(h0, .inr (12, [.ref m_tape, .int 12, .int 0, .ref m_sign, .ref m_length, .ref m_clause, .ref m_clauses, .ref m_read, .int 0, .int 0, .int 0, .int 0, .int 0, .int 0, .int 0, .ref m_open, .int 0, .ref m_stack, .int 0, .ref m_word, .ref m_said, .int (-1), .int 0, .ref m_vote, .int 0, .ref m_wasSaid, .int 0, .ref m_kept, .ref m_wanted, .ref m_chosenBy, .ref m_gone, .ref m_isFit, .ref m_bishopThen, .long 0, .ref m_images, .ref m_imageForce, .ref m_imageX, .ref m_isMade])), (m_tape, .inl (mk_tape, 400, .inl f))] sz) t) (va_A [(h0, .inr (12, [.ref m_tape, .int 12, .int 0, .ref m_sign, .ref m_length, .ref m_clause, .ref m_clauses, .ref m_read, .int 0, .int 0, .int 0, .int 0, .int 0, .int 0, .int 0, .ref m_open, .int 0, .ref m_stack, .int 0, .ref m_word, .ref m_said, .int (-1), .int 0, .ref m_vote, .int 0, .ref m_wasSaid, .int 0, .ref m_kept, .ref m_wanted, .ref m_chosenBy, .ref m_gone, .ref m_isFit, .ref m_bishopThen, .long 0, .ref m_images, .ref m_imageForce, .ref m_imageX, .ref m_isMade])), (m_tape, .inl (mk_tape, 400, .inl f))] sz)) 0 0 (va_A [(h0, .inr (12, [.ref m_tape, .int 12, .int 0, .ref m_sign, .ref m_length, .ref m_clause, .ref m_clauses, .ref m_read, .int 0, .int 0, .int 0, .int 0, .int 0, .int 0, .int 0, .ref m_open, .int 0, .ref m_stack, .int 0, .ref m_word, .ref m_said, .int (-1), .int 0, .ref m_vote, .int 0, .ref m_wasSaid, .int 0, .ref m_kept, .ref m_wanted, .ref m_chosenBy, .ref m_gone, .ref m_isFit, .ref m_bishopThen, .long 0, .ref m_images, .ref m_imageForce, .ref m_imageX, .ref m_isMade])), (m_tape, .inl (mk_tape, 400, .inl f))] sz) := by
  refine Met.ofW (cc := cX12_four) (maxL := 3) (ret := none) (by decide) rfl ?_
  intro p e s m args below meth c s₁ B hml hv
  obtain ⟨rfl, hsz, hP, hK, hD0, hE⟩ := hv
  have hx := B.exec
  have hb := B.bytes
  have hr := B.returns
  have hts0 := atoms_spec (ws := ws_u yX12_four cX12_four 3 none) B.pre
  have hts : ∀ w ∈ gT, w.before _ s = true := fun w h => hts0 w (List.mem_cons_of_mem _ h)
  have hown : s.vm.findClass RX12 = some m.cls := findClass_of_methodNamed B.named
  have hlocks := B.notSynchronized
  subst hsz
  have hD := hD0.self (sz := s.heap.size)
  generalize hAe : va_A [(h0, .inr (12, [.ref m_tape, .int 12, .int 0, .ref m_sign, .ref m_length, .ref m_clause, .ref m_clauses, .ref m_read, .int 0, .int 0, .int 0, .int 0, .int 0, .int 0, .int 0, .ref m_open, .int 0, .ref m_stack, .int 0, .ref m_word, .ref m_said, .int (-1), .int 0, .ref m_vote, .int 0, .ref m_wasSaid, .int 0, .ref m_kept, .ref m_wanted, .ref m_chosenBy, .ref m_gone, .ref m_isFit, .ref m_bishopThen, .long 0, .ref m_images, .ref m_imageForce, .ref m_imageX, .ref m_isMade])), (m_tape, .inl (mk_tape, 400, .inl f))] s.heap.size = A at hD ⊢
  have hA : ∀ q : Nat, s.heap.size ≤ q → A q := fun q h => by rw [← hAe]; exact Or.inr h
  have hS : va_S A s.heap s.heap [] := va_S.rf
  have hl := lv_entry ([.ref h0, .int a0]) (n := 3) (Nat.le_of_ble_eq_true rfl)
  rw [lg_entry_eq]
  generalize (lg_sl ([.ref h0, .int a0]) ++ List.replicate (3 - (lg_sl ([.ref h0, .int a0])).length) Slot.unset).toArray = ls at hl ⊢
  have hl : lv_has ls 3 [(0, .ref h0), (1, .int a0)] := hl
  have hP : va_P (dC, dI) vwCl [(h0, .inr (12, [.ref m_tape, .int 12, .int 0, .ref m_sign, .ref m_length, .ref m_clause, .ref m_clauses, .ref m_read, .int 0, .int 0, .int 0, .int 0, .int 0, .int 0, .int 0, .ref m_open, .int 0, .ref m_stack, .int 0, .ref m_word, .ref m_said, .int (-1), .int 0, .ref m_vote, .int 0, .ref m_wasSaid, .int 0, .ref m_kept, .ref m_wanted, .ref m_chosenBy, .ref m_gone, .ref m_isFit, .ref m_bishopThen, .long 0, .ref m_images, .ref m_imageForce, .ref m_imageX, .ref m_isMade])), (m_tape, .inl (mk_tape, 400, .inl f))] s.heap := hP
  try clear hAe
  refine lv_bipush (v := 24) hx hb dX12_four_0 (by decide) ?_
  refine lv_istore_n (lv' := [(2, .int 24), (0, .ref h0), (1, .int a0)]) hx hb dX12_four_2 rfl hl (by decide) rfl (fun ls hl => ?_)
  refine lv_iload_n hx hb dX12_four_3 rfl (lv_at hl 0 rfl) ?_
  refine lv_if_lt (tgt := 36) hx hb dX12_four_4 (by decide) (fun c_1 => absurd c_1 (by decide)) (fun c_1 => ?_)
  refine lv_aload_n hx hb dX12_four_7 rfl (lv_at hl 1 rfl) ?_
  refine va_get (D := (dC, dI)) (ci := 12) (v := .ref m_tape) (C := RX12) (T := TX12) (N := 38) hx hb hts iX12 hown hK hP 0 rfl rfl 0 (by decide) (hts _ tw_1125) (fun _ h9 => h9) rfl dX12_four_8 ?_
  refine lv_aload_n hx hb dX12_four_11 rfl (lv_at hl 1 rfl) ?_
  refine va_get (D := (dC, dI)) (ci := 12) (v := .int 12) (C := RX12) (T := TX12) (N := 38) hx hb hts iX12 hown hK hP 0 rfl rfl 1 (by decide) (hts _ tw_1126) (fun _ h9 => h9) rfl dX12_four_12 ?_
  refine lv_iload_n hx hb dX12_four_15 rfl (lv_at hl 2 rfl) ?_
  refine lv_iload_n hx hb dX12_four_16 rfl (lv_at hl 0 rfl) ?_
  refine lv_ishr hx hb dX12_four_17 ?_
  refine lv_topi (fun x_2 ex_2 => ?_)
  obtain ⟨x_3, ex_3⟩ : ∃ y : Int32, x_2.toInt8.toInt32 = y := ⟨_, rfl⟩
  refine lv_i2b (v := x_3) hx hb dX12_four_18 ex_3 ?_
  refine va_bast hx hb hK hP hD hS 1 0 rfl rfl (show vp_in 12 400 from (by decide : ¬ ((12 : Int32) < 0 ∨ 400 ≤ (12 : Int32).toNatClampNeg))) dX12_four_19 (fun H locs hP hD hS => ?_)
  have hP : va_P (dC, dI) vwCl [(h0, .inr (12, [.ref m_tape, .int 12, .int 0, .ref m_sign, .ref m_length, .ref m_clause, .ref m_clauses, .ref m_read, .int 0, .int 0, .int 0, .int 0, .int 0, .int 0, .int 0, .ref m_open, .int 0, .ref m_stack, .int 0, .ref m_word, .ref m_said, .int (-1), .int 0, .ref m_vote, .int 0, .ref m_wasSaid, .int 0, .ref m_kept, .ref m_wanted, .ref m_chosenBy, .ref m_gone, .ref m_isFit, .ref m_bishopThen, .long 0, .ref m_images, .ref m_imageForce, .ref m_imageX, .ref m_isMade])), (m_tape, .inl (mk_tape, 400, .inl (upd f (Int32.toNatClampNeg 12) (vp_nar .byte x_3))))] H := hP
  have hD : va_D A [(h0, .inr (12, [.ref m_tape, .int 12, .int 0, .ref m_sign, .ref m_length, .ref m_clause, .ref m_clauses, .ref m_read, .int 0, .int 0, .int 0, .int 0, .int 0, .int 0, .int 0, .ref m_open, .int 0, .ref m_stack, .int 0, .ref m_word, .ref m_said, .int (-1), .int 0, .ref m_vote, .int 0, .ref m_wasSaid, .int 0, .ref m_kept, .ref m_wanted, .ref m_chosenBy, .ref m_gone, .ref m_isFit, .ref m_bishopThen, .long 0, .ref m_images, .ref m_imageForce, .ref m_imageX, .ref m_isMade])), (m_tape, .inl (mk_tape, 400, .inl (upd f (Int32.toNatClampNeg 12) (vp_nar .byte x_3))))] := hD
  generalize upd f (Int32.toNatClampNeg 12) (vp_nar .byte x_3) = f_4 at hP hD
  refine lv_aload_n hx hb dX12_four_20 rfl (lv_at hl 1 rfl) ?_
  refine lv_dup hx hb dX12_four_21 rfl ?_
  refine va_get (D := (dC, dI)) (ci := 12) (v := .int 12) (C := RX12) (T := TX12) (N := 38) hx hb hts iX12 hown hK hP 0 rfl rfl 1 (by decide) (hts _ tw_1126) (fun _ h9 => h9) rfl dX12_four_22 ?_
  refine lv_iconst (v := 1) hx hb dX12_four_25 (by decide) ?_
  refine lv_iadd hx hb dX12_four_26 ?_
  refine lv_topi (fun x_5 ex_5 => ?_)
  obtain rfl : x_5 = 13 := ex_5.trans (by decide)
  refine va_put (D := (dC, dI)) (ci := 12) (v := .int 13) (C := RX12) (T := TX12) (N := 38) hx hb hts iX12 tyX12 tyX12_ok nmX12 hown hK hP hD hS 0 rfl rfl 1 (by decide) (hts _ tw_1126) (fun _ h9 => h9) rfl (tyX12_ok 1 (by decide)) rfl rfl (Nat.le_of_ble_eq_true rfl) dX12_four_27 (fun H locs hP hD hS => ?_)
  have hP : va_P (dC, dI) vwCl [(h0, .inr (12, [.ref m_tape, .int 13, .int 0, .ref m_sign, .ref m_length, .ref m_clause, .ref m_clauses, .ref m_read, .int 0, .int 0, .int 0, .int 0, .int 0, .int 0, .int 0, .ref m_open, .int 0, .ref m_stack, .int 0, .ref m_word, .ref m_said, .int (-1), .int 0, .ref m_vote, .int 0, .ref m_wasSaid, .int 0, .ref m_kept, .ref m_wanted, .ref m_chosenBy, .ref m_gone, .ref m_isFit, .ref m_bishopThen, .long 0, .ref m_images, .ref m_imageForce, .ref m_imageX, .ref m_isMade])), (m_tape, .inl (mk_tape, 400, .inl f_4))] H := hP
  have hD : va_D A [(h0, .inr (12, [.ref m_tape, .int 13, .int 0, .ref m_sign, .ref m_length, .ref m_clause, .ref m_clauses, .ref m_read, .int 0, .int 0, .int 0, .int 0, .int 0, .int 0, .int 0, .ref m_open, .int 0, .ref m_stack, .int 0, .ref m_word, .ref m_said, .int (-1), .int 0, .ref m_vote, .int 0, .ref m_wasSaid, .int 0, .ref m_kept, .ref m_wanted, .ref m_chosenBy, .ref m_gone, .ref m_isFit, .ref m_bishopThen, .long 0, .ref m_images, .ref m_imageForce, .ref m_imageX, .ref m_isMade])), (m_tape, .inl (mk_tape, 400, .inl f_4))] := hD
  refine lv_iinc (v := 16) (lv' := [(2, .int 16), (0, .ref h0), (1, .int a0)]) hx hb dX12_four_30 hl (k := 0) rfl (by decide) (by decide) rfl (fun ls hl => ?_)
  refine lv_goto (tgt := 3) hx hb dX12_four_33 (by decide) ?_
  refine lv_iload_n hx hb dX12_four_3 rfl (lv_at hl 0 rfl) ?_
  refine lv_if_lt (tgt := 36) hx hb dX12_four_4 (by decide) (fun c_6 => absurd c_6 (by decide)) (fun c_6 => ?_)
  refine lv_aload_n hx hb dX12_four_7 rfl (lv_at hl 1 rfl) ?_
  refine va_get (D := (dC, dI)) (ci := 12) (v := .ref m_tape) (C := RX12) (T := TX12) (N := 38) hx hb hts iX12 hown hK hP 0 rfl rfl 0 (by decide) (hts _ tw_1125) (fun _ h9 => h9) rfl dX12_four_8 ?_
  refine lv_aload_n hx hb dX12_four_11 rfl (lv_at hl 1 rfl) ?_
  refine va_get (D := (dC, dI)) (ci := 12) (v := .int 13) (C := RX12) (T := TX12) (N := 38) hx hb hts iX12 hown hK hP 0 rfl rfl 1 (by decide) (hts _ tw_1126) (fun _ h9 => h9) rfl dX12_four_12 ?_
  refine lv_iload_n hx hb dX12_four_15 rfl (lv_at hl 2 rfl) ?_
  refine lv_iload_n hx hb dX12_four_16 rfl (lv_at hl 0 rfl) ?_
  refine lv_ishr hx hb dX12_four_17 ?_
  refine lv_topi (fun x_7 ex_7 => ?_)
  obtain ⟨x_8, ex_8⟩ : ∃ y : Int32, x_7.toInt8.toInt32 = y := ⟨_, rfl⟩
  refine lv_i2b (v := x_8) hx hb dX12_four_18 ex_8 ?_
  refine va_bast hx hb hK hP hD hS 1 0 rfl rfl (show vp_in 13 400 from (by decide : ¬ ((13 : Int32) < 0 ∨ 400 ≤ (13 : Int32).toNatClampNeg))) dX12_four_19 (fun H locs hP hD hS => ?_)
  have hP : va_P (dC, dI) vwCl [(h0, .inr (12, [.ref m_tape, .int 13, .int 0, .ref m_sign, .ref m_length, .ref m_clause, .ref m_clauses, .ref m_read, .int 0, .int 0, .int 0, .int 0, .int 0, .int 0, .int 0, .ref m_open, .int 0, .ref m_stack, .int 0, .ref m_word, .ref m_said, .int (-1), .int 0, .ref m_vote, .int 0, .ref m_wasSaid, .int 0, .ref m_kept, .ref m_wanted, .ref m_chosenBy, .ref m_gone, .ref m_isFit, .ref m_bishopThen, .long 0, .ref m_images, .ref m_imageForce, .ref m_imageX, .ref m_isMade])), (m_tape, .inl (mk_tape, 400, .inl (upd f_4 (Int32.toNatClampNeg 13) (vp_nar .byte x_8))))] H := hP
  have hD : va_D A [(h0, .inr (12, [.ref m_tape, .int 13, .int 0, .ref m_sign, .ref m_length, .ref m_clause, .ref m_clauses, .ref m_read, .int 0, .int 0, .int 0, .int 0, .int 0, .int 0, .int 0, .ref m_open, .int 0, .ref m_stack, .int 0, .ref m_word, .ref m_said, .int (-1), .int 0, .ref m_vote, .int 0, .ref m_wasSaid, .int 0, .ref m_kept, .ref m_wanted, .ref m_chosenBy, .ref m_gone, .ref m_isFit, .ref m_bishopThen, .long 0, .ref m_images, .ref m_imageForce, .ref m_imageX, .ref m_isMade])), (m_tape, .inl (mk_tape, 400, .inl (upd f_4 (Int32.toNatClampNeg 13) (vp_nar .byte x_8))))] := hD
  generalize upd f_4 (Int32.toNatClampNeg 13) (vp_nar .byte x_8) = f_9 at hP hD
  refine lv_aload_n hx hb dX12_four_20 rfl (lv_at hl 1 rfl) ?_
  refine lv_dup hx hb dX12_four_21 rfl ?_
  refine va_get (D := (dC, dI)) (ci := 12) (v := .int 13) (C := RX12) (T := TX12) (N := 38) hx hb hts iX12 hown hK hP 0 rfl rfl 1 (by decide) (hts _ tw_1126) (fun _ h9 => h9) rfl dX12_four_22 ?_
  refine lv_iconst (v := 1) hx hb dX12_four_25 (by decide) ?_
  refine lv_iadd hx hb dX12_four_26 ?_
  refine lv_topi (fun x_10 ex_10 => ?_)
  obtain rfl : x_10 = 14 := ex_10.trans (by decide)
  refine va_put (D := (dC, dI)) (ci := 12) (v := .int 14) (C := RX12) (T := TX12) (N := 38) hx hb hts iX12 tyX12 tyX12_ok nmX12 hown hK hP hD hS 0 rfl rfl 1 (by decide) (hts _ tw_1126) (fun _ h9 => h9) rfl (tyX12_ok 1 (by decide)) rfl rfl (Nat.le_of_ble_eq_true rfl) dX12_four_27 (fun H locs hP hD hS => ?_)
  have hP : va_P (dC, dI) vwCl [(h0, .inr (12, [.ref m_tape, .int 14, .int 0, .ref m_sign, .ref m_length, .ref m_clause, .ref m_clauses, .ref m_read, .int 0, .int 0, .int 0, .int 0, .int 0, .int 0, .int 0, .ref m_open, .int 0, .ref m_stack, .int 0, .ref m_word, .ref m_said, .int (-1), .int 0, .ref m_vote, .int 0, .ref m_wasSaid, .int 0, .ref m_kept, .ref m_wanted, .ref m_chosenBy, .ref m_gone, .ref m_isFit, .ref m_bishopThen, .long 0, .ref m_images, .ref m_imageForce, .ref m_imageX, .ref m_isMade])), (m_tape, .inl (mk_tape, 400, .inl f_9))] H := hP
  have hD : va_D A [(h0, .inr (12, [.ref m_tape, .int 14, .int 0, .ref m_sign, .ref m_length, .ref m_clause, .ref m_clauses, .ref m_read, .int 0, .int 0, .int 0, .int 0, .int 0, .int 0, .int 0, .ref m_open, .int 0, .ref m_stack, .int 0, .ref m_word, .ref m_said, .int (-1), .int 0, .ref m_vote, .int 0, .ref m_wasSaid, .int 0, .ref m_kept, .ref m_wanted, .ref m_chosenBy, .ref m_gone, .ref m_isFit, .ref m_bishopThen, .long 0, .ref m_images, .ref m_imageForce, .ref m_imageX, .ref m_isMade])), (m_tape, .inl (mk_tape, 400, .inl f_9))] := hD
  refine lv_iinc (v := 8) (lv' := [(2, .int 8), (0, .ref h0), (1, .int a0)]) hx hb dX12_four_30 hl (k := 0) rfl (by decide) (by decide) rfl (fun ls hl => ?_)
  refine lv_goto (tgt := 3) hx hb dX12_four_33 (by decide) ?_
  refine lv_iload_n hx hb dX12_four_3 rfl (lv_at hl 0 rfl) ?_
  refine lv_if_lt (tgt := 36) hx hb dX12_four_4 (by decide) (fun c_11 => absurd c_11 (by decide)) (fun c_11 => ?_)
  refine lv_aload_n hx hb dX12_four_7 rfl (lv_at hl 1 rfl) ?_
  refine va_get (D := (dC, dI)) (ci := 12) (v := .ref m_tape) (C := RX12) (T := TX12) (N := 38) hx hb hts iX12 hown hK hP 0 rfl rfl 0 (by decide) (hts _ tw_1125) (fun _ h9 => h9) rfl dX12_four_8 ?_
  refine lv_aload_n hx hb dX12_four_11 rfl (lv_at hl 1 rfl) ?_
  refine va_get (D := (dC, dI)) (ci := 12) (v := .int 14) (C := RX12) (T := TX12) (N := 38) hx hb hts iX12 hown hK hP 0 rfl rfl 1 (by decide) (hts _ tw_1126) (fun _ h9 => h9) rfl dX12_four_12 ?_
  refine lv_iload_n hx hb dX12_four_15 rfl (lv_at hl 2 rfl) ?_
  refine lv_iload_n hx hb dX12_four_16 rfl (lv_at hl 0 rfl) ?_
  refine lv_ishr hx hb dX12_four_17 ?_
  refine lv_topi (fun x_12 ex_12 => ?_)
  obtain ⟨x_13, ex_13⟩ : ∃ y : Int32, x_12.toInt8.toInt32 = y := ⟨_, rfl⟩
  refine lv_i2b (v := x_13) hx hb dX12_four_18 ex_13 ?_
  refine va_bast hx hb hK hP hD hS 1 0 rfl rfl (show vp_in 14 400 from (by decide : ¬ ((14 : Int32) < 0 ∨ 400 ≤ (14 : Int32).toNatClampNeg))) dX12_four_19 (fun H locs hP hD hS => ?_)
  have hP : va_P (dC, dI) vwCl [(h0, .inr (12, [.ref m_tape, .int 14, .int 0, .ref m_sign, .ref m_length, .ref m_clause, .ref m_clauses, .ref m_read, .int 0, .int 0, .int 0, .int 0, .int 0, .int 0, .int 0, .ref m_open, .int 0, .ref m_stack, .int 0, .ref m_word, .ref m_said, .int (-1), .int 0, .ref m_vote, .int 0, .ref m_wasSaid, .int 0, .ref m_kept, .ref m_wanted, .ref m_chosenBy, .ref m_gone, .ref m_isFit, .ref m_bishopThen, .long 0, .ref m_images, .ref m_imageForce, .ref m_imageX, .ref m_isMade])), (m_tape, .inl (mk_tape, 400, .inl (upd f_9 (Int32.toNatClampNeg 14) (vp_nar .byte x_13))))] H := hP
  have hD : va_D A [(h0, .inr (12, [.ref m_tape, .int 14, .int 0, .ref m_sign, .ref m_length, .ref m_clause, .ref m_clauses, .ref m_read, .int 0, .int 0, .int 0, .int 0, .int 0, .int 0, .int 0, .ref m_open, .int 0, .ref m_stack, .int 0, .ref m_word, .ref m_said, .int (-1), .int 0, .ref m_vote, .int 0, .ref m_wasSaid, .int 0, .ref m_kept, .ref m_wanted, .ref m_chosenBy, .ref m_gone, .ref m_isFit, .ref m_bishopThen, .long 0, .ref m_images, .ref m_imageForce, .ref m_imageX, .ref m_isMade])), (m_tape, .inl (mk_tape, 400, .inl (upd f_9 (Int32.toNatClampNeg 14) (vp_nar .byte x_13))))] := hD
  generalize upd f_9 (Int32.toNatClampNeg 14) (vp_nar .byte x_13) = f_14 at hP hD
  refine lv_aload_n hx hb dX12_four_20 rfl (lv_at hl 1 rfl) ?_
  refine lv_dup hx hb dX12_four_21 rfl ?_
  refine va_get (D := (dC, dI)) (ci := 12) (v := .int 14) (C := RX12) (T := TX12) (N := 38) hx hb hts iX12 hown hK hP 0 rfl rfl 1 (by decide) (hts _ tw_1126) (fun _ h9 => h9) rfl dX12_four_22 ?_
  refine lv_iconst (v := 1) hx hb dX12_four_25 (by decide) ?_
  refine lv_iadd hx hb dX12_four_26 ?_
  refine lv_topi (fun x_15 ex_15 => ?_)
  obtain rfl : x_15 = 15 := ex_15.trans (by decide)
  refine va_put (D := (dC, dI)) (ci := 12) (v := .int 15) (C := RX12) (T := TX12) (N := 38) hx hb hts iX12 tyX12 tyX12_ok nmX12 hown hK hP hD hS 0 rfl rfl 1 (by decide) (hts _ tw_1126) (fun _ h9 => h9) rfl (tyX12_ok 1 (by decide)) rfl rfl (Nat.le_of_ble_eq_true rfl) dX12_four_27 (fun H locs hP hD hS => ?_)
  have hP : va_P (dC, dI) vwCl [(h0, .inr (12, [.ref m_tape, .int 15, .int 0, .ref m_sign, .ref m_length, .ref m_clause, .ref m_clauses, .ref m_read, .int 0, .int 0, .int 0, .int 0, .int 0, .int 0, .int 0, .ref m_open, .int 0, .ref m_stack, .int 0, .ref m_word, .ref m_said, .int (-1), .int 0, .ref m_vote, .int 0, .ref m_wasSaid, .int 0, .ref m_kept, .ref m_wanted, .ref m_chosenBy, .ref m_gone, .ref m_isFit, .ref m_bishopThen, .long 0, .ref m_images, .ref m_imageForce, .ref m_imageX, .ref m_isMade])), (m_tape, .inl (mk_tape, 400, .inl f_14))] H := hP
  have hD : va_D A [(h0, .inr (12, [.ref m_tape, .int 15, .int 0, .ref m_sign, .ref m_length, .ref m_clause, .ref m_clauses, .ref m_read, .int 0, .int 0, .int 0, .int 0, .int 0, .int 0, .int 0, .ref m_open, .int 0, .ref m_stack, .int 0, .ref m_word, .ref m_said, .int (-1), .int 0, .ref m_vote, .int 0, .ref m_wasSaid, .int 0, .ref m_kept, .ref m_wanted, .ref m_chosenBy, .ref m_gone, .ref m_isFit, .ref m_bishopThen, .long 0, .ref m_images, .ref m_imageForce, .ref m_imageX, .ref m_isMade])), (m_tape, .inl (mk_tape, 400, .inl f_14))] := hD
  refine lv_iinc (v := 0) (lv' := [(2, .int 0), (0, .ref h0), (1, .int a0)]) hx hb dX12_four_30 hl (k := 0) rfl (by decide) (by decide) rfl (fun ls hl => ?_)
  refine lv_goto (tgt := 3) hx hb dX12_four_33 (by decide) ?_
  refine lv_iload_n hx hb dX12_four_3 rfl (lv_at hl 0 rfl) ?_
  refine lv_if_lt (tgt := 36) hx hb dX12_four_4 (by decide) (fun c_16 => absurd c_16 (by decide)) (fun c_16 => ?_)
  refine lv_aload_n hx hb dX12_four_7 rfl (lv_at hl 1 rfl) ?_
  refine va_get (D := (dC, dI)) (ci := 12) (v := .ref m_tape) (C := RX12) (T := TX12) (N := 38) hx hb hts iX12 hown hK hP 0 rfl rfl 0 (by decide) (hts _ tw_1125) (fun _ h9 => h9) rfl dX12_four_8 ?_
  refine lv_aload_n hx hb dX12_four_11 rfl (lv_at hl 1 rfl) ?_
  refine va_get (D := (dC, dI)) (ci := 12) (v := .int 15) (C := RX12) (T := TX12) (N := 38) hx hb hts iX12 hown hK hP 0 rfl rfl 1 (by decide) (hts _ tw_1126) (fun _ h9 => h9) rfl dX12_four_12 ?_
  refine lv_iload_n hx hb dX12_four_15 rfl (lv_at hl 2 rfl) ?_
  refine lv_iload_n hx hb dX12_four_16 rfl (lv_at hl 0 rfl) ?_
  refine lv_ishr hx hb dX12_four_17 ?_
  refine lv_topi (fun x_17 ex_17 => ?_)
  obtain ⟨x_18, ex_18⟩ : ∃ y : Int32, x_17.toInt8.toInt32 = y := ⟨_, rfl⟩
  refine lv_i2b (v := x_18) hx hb dX12_four_18 ex_18 ?_
  refine va_bast hx hb hK hP hD hS 1 0 rfl rfl (show vp_in 15 400 from (by decide : ¬ ((15 : Int32) < 0 ∨ 400 ≤ (15 : Int32).toNatClampNeg))) dX12_four_19 (fun H locs hP hD hS => ?_)
  have hP : va_P (dC, dI) vwCl [(h0, .inr (12, [.ref m_tape, .int 15, .int 0, .ref m_sign, .ref m_length, .ref m_clause, .ref m_clauses, .ref m_read, .int 0, .int 0, .int 0, .int 0, .int 0, .int 0, .int 0, .ref m_open, .int 0, .ref m_stack, .int 0, .ref m_word, .ref m_said, .int (-1), .int 0, .ref m_vote, .int 0, .ref m_wasSaid, .int 0, .ref m_kept, .ref m_wanted, .ref m_chosenBy, .ref m_gone, .ref m_isFit, .ref m_bishopThen, .long 0, .ref m_images, .ref m_imageForce, .ref m_imageX, .ref m_isMade])), (m_tape, .inl (mk_tape, 400, .inl (upd f_14 (Int32.toNatClampNeg 15) (vp_nar .byte x_18))))] H := hP
  have hD : va_D A [(h0, .inr (12, [.ref m_tape, .int 15, .int 0, .ref m_sign, .ref m_length, .ref m_clause, .ref m_clauses, .ref m_read, .int 0, .int 0, .int 0, .int 0, .int 0, .int 0, .int 0, .ref m_open, .int 0, .ref m_stack, .int 0, .ref m_word, .ref m_said, .int (-1), .int 0, .ref m_vote, .int 0, .ref m_wasSaid, .int 0, .ref m_kept, .ref m_wanted, .ref m_chosenBy, .ref m_gone, .ref m_isFit, .ref m_bishopThen, .long 0, .ref m_images, .ref m_imageForce, .ref m_imageX, .ref m_isMade])), (m_tape, .inl (mk_tape, 400, .inl (upd f_14 (Int32.toNatClampNeg 15) (vp_nar .byte x_18))))] := hD
  generalize upd f_14 (Int32.toNatClampNeg 15) (vp_nar .byte x_18) = f_19 at hP hD
  refine lv_aload_n hx hb dX12_four_20 rfl (lv_at hl 1 rfl) ?_
  refine lv_dup hx hb dX12_four_21 rfl ?_
  refine va_get (D := (dC, dI)) (ci := 12) (v := .int 15) (C := RX12) (T := TX12) (N := 38) hx hb hts iX12 hown hK hP 0 rfl rfl 1 (by decide) (hts _ tw_1126) (fun _ h9 => h9) rfl dX12_four_22 ?_
  refine lv_iconst (v := 1) hx hb dX12_four_25 (by decide) ?_
  refine lv_iadd hx hb dX12_four_26 ?_
  refine lv_topi (fun x_20 ex_20 => ?_)
  obtain rfl : x_20 = 16 := ex_20.trans (by decide)
  refine va_put (D := (dC, dI)) (ci := 12) (v := .int 16) (C := RX12) (T := TX12) (N := 38) hx hb hts iX12 tyX12 tyX12_ok nmX12 hown hK hP hD hS 0 rfl rfl 1 (by decide) (hts _ tw_1126) (fun _ h9 => h9) rfl (tyX12_ok 1 (by decide)) rfl rfl (Nat.le_of_ble_eq_true rfl) dX12_four_27 (fun H locs hP hD hS => ?_)
  have hP : va_P (dC, dI) vwCl [(h0, .inr (12, [.ref m_tape, .int 16, .int 0, .ref m_sign, .ref m_length, .ref m_clause, .ref m_clauses, .ref m_read, .int 0, .int 0, .int 0, .int 0, .int 0, .int 0, .int 0, .ref m_open, .int 0, .ref m_stack, .int 0, .ref m_word, .ref m_said, .int (-1), .int 0, .ref m_vote, .int 0, .ref m_wasSaid, .int 0, .ref m_kept, .ref m_wanted, .ref m_chosenBy, .ref m_gone, .ref m_isFit, .ref m_bishopThen, .long 0, .ref m_images, .ref m_imageForce, .ref m_imageX, .ref m_isMade])), (m_tape, .inl (mk_tape, 400, .inl f_19))] H := hP
  have hD : va_D A [(h0, .inr (12, [.ref m_tape, .int 16, .int 0, .ref m_sign, .ref m_length, .ref m_clause, .ref m_clauses, .ref m_read, .int 0, .int 0, .int 0, .int 0, .int 0, .int 0, .int 0, .ref m_open, .int 0, .ref m_stack, .int 0, .ref m_word, .ref m_said, .int (-1), .int 0, .ref m_vote, .int 0, .ref m_wasSaid, .int 0, .ref m_kept, .ref m_wanted, .ref m_chosenBy, .ref m_gone, .ref m_isFit, .ref m_bishopThen, .long 0, .ref m_images, .ref m_imageForce, .ref m_imageX, .ref m_isMade])), (m_tape, .inl (mk_tape, 400, .inl f_19))] := hD
  refine lv_iinc (v := (-8)) (lv' := [(2, .int (-8)), (0, .ref h0), (1, .int a0)]) hx hb dX12_four_30 hl (k := 0) rfl (by decide) (by decide) rfl (fun ls hl => ?_)
  refine lv_goto (tgt := 3) hx hb dX12_four_33 (by decide) ?_
  refine lv_iload_n hx hb dX12_four_3 rfl (lv_at hl 0 rfl) ?_
  refine lv_if_lt (tgt := 36) hx hb dX12_four_4 (by decide) (fun c_21 => ?_) (fun c_21 => absurd (by decide) c_21)
  have hP9 := hP.sub (ws' := [(h0, .inr (12, [.ref m_tape, .int 16, .int 0, .ref m_sign, .ref m_length, .ref m_clause, .ref m_clauses, .ref m_read, .int 0, .int 0, .int 0, .int 0, .int 0, .int 0, .int 0, .ref m_open, .int 0, .ref m_stack, .int 0, .ref m_word, .ref m_said, .int (-1), .int 0, .ref m_vote, .int 0, .ref m_wasSaid, .int 0, .ref m_kept, .ref m_wanted, .ref m_chosenBy, .ref m_gone, .ref m_isFit, .ref m_bishopThen, .long 0, .ref m_images, .ref m_imageForce, .ref m_imageX, .ref m_isMade])), (m_tape, .inl (mk_tape, 400, .inl f_19))]) [0, 1] rfl
  have hD9 := hD.sub (ws' := [(h0, .inr (12, [.ref m_tape, .int 16, .int 0, .ref m_sign, .ref m_length, .ref m_clause, .ref m_clauses, .ref m_read, .int 0, .int 0, .int 0, .int 0, .int 0, .int 0, .int 0, .ref m_open, .int 0, .ref m_stack, .int 0, .ref m_word, .ref m_said, .int (-1), .int 0, .ref m_vote, .int 0, .ref m_wasSaid, .int 0, .ref m_kept, .ref m_wanted, .ref m_chosenBy, .ref m_gone, .ref m_isFit, .ref m_bishopThen, .long 0, .ref m_images, .ref m_imageForce, .ref m_imageX, .ref m_isMade])), (m_tape, .inl (mk_tape, 400, .inl f_19))]) [0, 1] (by decide) rfl
  have hK9 := hK.sub (tys' := [(mk_tape, .byte)]) [0] rfl
  refine W.widen (k := 0) (n := 0) (Nat.le_of_ble_eq_true rfl) (Nat.le_of_ble_eq_true rfl) ?_
  exact W.vret hx hb hr (fun t ht hW => ⟨⟨(), rfl, trivial, ⟨f_19, by rw [ht]; exact hP9, va_K.moved hW.alike hK9, hD9⟩⟩, hS.F ht⟩) hS.2.2 dX12_four_36
set_option maxHeartbeats 4000000 in
set_option maxRecDepth 100000 in
theorem m_four_16 (l : Launch) (dC : Nat → ClassId) (dI : Nat → Nat → Nat) (h0 : Nat) (m_tape : Nat) (m_sign : Nat) (m_length : Nat) (m_clause : Nat) (m_clauses : Nat) (m_read : Nat) (m_open : Nat) (m_stack : Nat) (m_word : Nat) (m_said : Nat) (m_vote : Nat) (m_wasSaid : Nat) (m_kept : Nat) (m_wanted : Nat) (m_chosenBy : Nat) (m_gone : Nat) (m_isFit : Nat) (m_bishopThen : Nat) (m_images : Nat) (m_imageForce : Nat) (m_imageX : Nat) (m_isMade : Nat) (mk_tape : ClassId) (f : Nat → Int32) (a0 : Int32) (sz : Nat) : Met l yX12_four (ws_u yX12_four cX12_four 3 none) ({ frames := 0, cells := 0, slots := 0, locals := 0 }) (va_Pc [.ref h0, .int a0] (cPre (dC, dI) [(mk_tape, .byte)] [(h0, .inr (12, [.ref m_tape, .int 16, .int 0, .ref m_sign, .ref m_length, .ref m_clause, .ref m_clauses, .ref m_read, .int 0, .int 0, .int 0, .int 0, .int 0, .int 0, .int 0, .ref m_open, .int 0, .ref m_stack, .int 0, .ref m_word, .ref m_said, .int (-1), .int 0, .ref m_vote, .int 0, .ref m_wasSaid, .int 0, .ref m_kept, .ref m_wanted, .ref m_chosenBy, .ref m_gone, .ref m_isFit, .ref m_bishopThen, .long 0, .ref m_images, .ref m_imageForce, .ref m_imageX, .ref m_isMade])), (m_tape, .inl (mk_tape, 400, .inl f))] sz)) (va_Qv (fun _ : Unit => True) (fun _ t => ∃ (g : Nat → Int32), cPost (dC, dI) [(mk_tape, .byte)] [(h0, .inr (12, [.ref m_tape, .int 20, .int 0, .ref m_sign, .ref m_length, .ref m_clause, .ref m_clauses, .ref m_read, .int 0, .int 0, .int 0, .int 0, .int 0, .int 0, .int 0, .ref m_open, .int 0, .ref m_stack, .int 0, .ref m_word, .ref m_said, .int (-1), .int 0, .ref m_vote, .int 0, .ref m_wasSaid, .int 0, .ref m_kept, .ref m_wanted, .ref m_chosenBy, .ref m_gone, .ref m_isFit, .ref m_bishopThen, .long 0, .ref m_images, .ref m_imageForce, .ref m_imageX, .ref m_isMade])), (m_tape, .inl (mk_tape, 400, .inl g))] (va_A [(h0, .inr (12, [.ref m_tape, .int 16, .int 0, .ref m_sign, .ref m_length, .ref m_clause, .ref m_clauses, .ref m_read, .int 0, .int 0, .int 0, .int 0, .int 0, .int 0, .int 0, .ref m_open, .int 0, .ref m_stack, .int 0, .ref m_word, .ref m_said, .int (-1), .int 0, .ref m_vote, .int 0, .ref m_wasSaid, .int 0, .ref m_kept, .ref m_wanted, .ref m_chosenBy, .ref m_gone, .ref m_isFit, .ref m_bishopThen, .long 0, .ref m_images, .ref m_imageForce, .ref m_imageX, .ref m_isMade])), (m_tape, .inl (mk_tape, 400, .inl f))] sz) t) (va_A [(h0, .inr (12, [.ref m_tape, .int 16, .int 0, .ref m_sign, .ref m_length, .ref m_clause, .ref m_clauses, .ref m_read, .int 0, .int 0, .int 0, .int 0, .int 0, .int 0, .int 0, .ref m_open, .int 0, .ref m_stack, .int 0, .ref m_word, .ref m_said, .int (-1), .int 0, .ref m_vote, .int 0, .ref m_wasSaid, .int 0, .ref m_kept, .ref m_wanted, .ref m_chosenBy, .ref m_gone, .ref m_isFit, .ref m_bishopThen, .long 0, .ref m_images, .ref m_imageForce, .ref m_imageX, .ref m_isMade])), (m_tape, .inl (mk_tape, 400, .inl f))] sz)) 0 0 (va_A [(h0, .inr (12, [.ref m_tape, .int 16, .int 0, .ref m_sign, .ref m_length, .ref m_clause, .ref m_clauses, .ref m_read, .int 0, .int 0, .int 0, .int 0, .int 0, .int 0, .int 0, .ref m_open, .int 0, .ref m_stack, .int 0, .ref m_word, .ref m_said, .int (-1), .int 0, .ref m_vote, .int 0, .ref m_wasSaid, .int 0, .ref m_kept, .ref m_wanted, .ref m_chosenBy, .ref m_gone, .ref m_isFit, .ref m_bishopThen, .long 0, .ref m_images, .ref m_imageForce, .ref m_imageX, .ref m_isMade])), (m_tape, .inl (mk_tape, 400, .inl f))] sz) := by
  refine Met.ofW (cc := cX12_four) (maxL := 3) (ret := none) (by decide) rfl ?_
  intro p e s m args below meth c s₁ B hml hv
  obtain ⟨rfl, hsz, hP, hK, hD0, hE⟩ := hv
  have hx := B.exec
  have hb := B.bytes
  have hr := B.returns
  have hts0 := atoms_spec (ws := ws_u yX12_four cX12_four 3 none) B.pre
  have hts : ∀ w ∈ gT, w.before _ s = true := fun w h => hts0 w (List.mem_cons_of_mem _ h)
  have hown : s.vm.findClass RX12 = some m.cls := findClass_of_methodNamed B.named
  have hlocks := B.notSynchronized
  subst hsz
  have hD := hD0.self (sz := s.heap.size)
  generalize hAe : va_A [(h0, .inr (12, [.ref m_tape, .int 16, .int 0, .ref m_sign, .ref m_length, .ref m_clause, .ref m_clauses, .ref m_read, .int 0, .int 0, .int 0, .int 0, .int 0, .int 0, .int 0, .ref m_open, .int 0, .ref m_stack, .int 0, .ref m_word, .ref m_said, .int (-1), .int 0, .ref m_vote, .int 0, .ref m_wasSaid, .int 0, .ref m_kept, .ref m_wanted, .ref m_chosenBy, .ref m_gone, .ref m_isFit, .ref m_bishopThen, .long 0, .ref m_images, .ref m_imageForce, .ref m_imageX, .ref m_isMade])), (m_tape, .inl (mk_tape, 400, .inl f))] s.heap.size = A at hD ⊢
  have hA : ∀ q : Nat, s.heap.size ≤ q → A q := fun q h => by rw [← hAe]; exact Or.inr h
  have hS : va_S A s.heap s.heap [] := va_S.rf
  have hl := lv_entry ([.ref h0, .int a0]) (n := 3) (Nat.le_of_ble_eq_true rfl)
  rw [lg_entry_eq]
  generalize (lg_sl ([.ref h0, .int a0]) ++ List.replicate (3 - (lg_sl ([.ref h0, .int a0])).length) Slot.unset).toArray = ls at hl ⊢
  have hl : lv_has ls 3 [(0, .ref h0), (1, .int a0)] := hl
  have hP : va_P (dC, dI) vwCl [(h0, .inr (12, [.ref m_tape, .int 16, .int 0, .ref m_sign, .ref m_length, .ref m_clause, .ref m_clauses, .ref m_read, .int 0, .int 0, .int 0, .int 0, .int 0, .int 0, .int 0, .ref m_open, .int 0, .ref m_stack, .int 0, .ref m_word, .ref m_said, .int (-1), .int 0, .ref m_vote, .int 0, .ref m_wasSaid, .int 0, .ref m_kept, .ref m_wanted, .ref m_chosenBy, .ref m_gone, .ref m_isFit, .ref m_bishopThen, .long 0, .ref m_images, .ref m_imageForce, .ref m_imageX, .ref m_isMade])), (m_tape, .inl (mk_tape, 400, .inl f))] s.heap := hP
  try clear hAe
  refine lv_bipush (v := 24) hx hb dX12_four_0 (by decide) ?_
  refine lv_istore_n (lv' := [(2, .int 24), (0, .ref h0), (1, .int a0)]) hx hb dX12_four_2 rfl hl (by decide) rfl (fun ls hl => ?_)
  refine lv_iload_n hx hb dX12_four_3 rfl (lv_at hl 0 rfl) ?_
  refine lv_if_lt (tgt := 36) hx hb dX12_four_4 (by decide) (fun c_1 => absurd c_1 (by decide)) (fun c_1 => ?_)
  refine lv_aload_n hx hb dX12_four_7 rfl (lv_at hl 1 rfl) ?_
  refine va_get (D := (dC, dI)) (ci := 12) (v := .ref m_tape) (C := RX12) (T := TX12) (N := 38) hx hb hts iX12 hown hK hP 0 rfl rfl 0 (by decide) (hts _ tw_1125) (fun _ h9 => h9) rfl dX12_four_8 ?_
  refine lv_aload_n hx hb dX12_four_11 rfl (lv_at hl 1 rfl) ?_
  refine va_get (D := (dC, dI)) (ci := 12) (v := .int 16) (C := RX12) (T := TX12) (N := 38) hx hb hts iX12 hown hK hP 0 rfl rfl 1 (by decide) (hts _ tw_1126) (fun _ h9 => h9) rfl dX12_four_12 ?_
  refine lv_iload_n hx hb dX12_four_15 rfl (lv_at hl 2 rfl) ?_
  refine lv_iload_n hx hb dX12_four_16 rfl (lv_at hl 0 rfl) ?_
  refine lv_ishr hx hb dX12_four_17 ?_
  refine lv_topi (fun x_2 ex_2 => ?_)
  obtain ⟨x_3, ex_3⟩ : ∃ y : Int32, x_2.toInt8.toInt32 = y := ⟨_, rfl⟩
  refine lv_i2b (v := x_3) hx hb dX12_four_18 ex_3 ?_
  refine va_bast hx hb hK hP hD hS 1 0 rfl rfl (show vp_in 16 400 from (by decide : ¬ ((16 : Int32) < 0 ∨ 400 ≤ (16 : Int32).toNatClampNeg))) dX12_four_19 (fun H locs hP hD hS => ?_)
  have hP : va_P (dC, dI) vwCl [(h0, .inr (12, [.ref m_tape, .int 16, .int 0, .ref m_sign, .ref m_length, .ref m_clause, .ref m_clauses, .ref m_read, .int 0, .int 0, .int 0, .int 0, .int 0, .int 0, .int 0, .ref m_open, .int 0, .ref m_stack, .int 0, .ref m_word, .ref m_said, .int (-1), .int 0, .ref m_vote, .int 0, .ref m_wasSaid, .int 0, .ref m_kept, .ref m_wanted, .ref m_chosenBy, .ref m_gone, .ref m_isFit, .ref m_bishopThen, .long 0, .ref m_images, .ref m_imageForce, .ref m_imageX, .ref m_isMade])), (m_tape, .inl (mk_tape, 400, .inl (upd f (Int32.toNatClampNeg 16) (vp_nar .byte x_3))))] H := hP
  have hD : va_D A [(h0, .inr (12, [.ref m_tape, .int 16, .int 0, .ref m_sign, .ref m_length, .ref m_clause, .ref m_clauses, .ref m_read, .int 0, .int 0, .int 0, .int 0, .int 0, .int 0, .int 0, .ref m_open, .int 0, .ref m_stack, .int 0, .ref m_word, .ref m_said, .int (-1), .int 0, .ref m_vote, .int 0, .ref m_wasSaid, .int 0, .ref m_kept, .ref m_wanted, .ref m_chosenBy, .ref m_gone, .ref m_isFit, .ref m_bishopThen, .long 0, .ref m_images, .ref m_imageForce, .ref m_imageX, .ref m_isMade])), (m_tape, .inl (mk_tape, 400, .inl (upd f (Int32.toNatClampNeg 16) (vp_nar .byte x_3))))] := hD
  generalize upd f (Int32.toNatClampNeg 16) (vp_nar .byte x_3) = f_4 at hP hD
  refine lv_aload_n hx hb dX12_four_20 rfl (lv_at hl 1 rfl) ?_
  refine lv_dup hx hb dX12_four_21 rfl ?_
  refine va_get (D := (dC, dI)) (ci := 12) (v := .int 16) (C := RX12) (T := TX12) (N := 38) hx hb hts iX12 hown hK hP 0 rfl rfl 1 (by decide) (hts _ tw_1126) (fun _ h9 => h9) rfl dX12_four_22 ?_
  refine lv_iconst (v := 1) hx hb dX12_four_25 (by decide) ?_
  refine lv_iadd hx hb dX12_four_26 ?_
  refine lv_topi (fun x_5 ex_5 => ?_)
  obtain rfl : x_5 = 17 := ex_5.trans (by decide)
  refine va_put (D := (dC, dI)) (ci := 12) (v := .int 17) (C := RX12) (T := TX12) (N := 38) hx hb hts iX12 tyX12 tyX12_ok nmX12 hown hK hP hD hS 0 rfl rfl 1 (by decide) (hts _ tw_1126) (fun _ h9 => h9) rfl (tyX12_ok 1 (by decide)) rfl rfl (Nat.le_of_ble_eq_true rfl) dX12_four_27 (fun H locs hP hD hS => ?_)
  have hP : va_P (dC, dI) vwCl [(h0, .inr (12, [.ref m_tape, .int 17, .int 0, .ref m_sign, .ref m_length, .ref m_clause, .ref m_clauses, .ref m_read, .int 0, .int 0, .int 0, .int 0, .int 0, .int 0, .int 0, .ref m_open, .int 0, .ref m_stack, .int 0, .ref m_word, .ref m_said, .int (-1), .int 0, .ref m_vote, .int 0, .ref m_wasSaid, .int 0, .ref m_kept, .ref m_wanted, .ref m_chosenBy, .ref m_gone, .ref m_isFit, .ref m_bishopThen, .long 0, .ref m_images, .ref m_imageForce, .ref m_imageX, .ref m_isMade])), (m_tape, .inl (mk_tape, 400, .inl f_4))] H := hP
  have hD : va_D A [(h0, .inr (12, [.ref m_tape, .int 17, .int 0, .ref m_sign, .ref m_length, .ref m_clause, .ref m_clauses, .ref m_read, .int 0, .int 0, .int 0, .int 0, .int 0, .int 0, .int 0, .ref m_open, .int 0, .ref m_stack, .int 0, .ref m_word, .ref m_said, .int (-1), .int 0, .ref m_vote, .int 0, .ref m_wasSaid, .int 0, .ref m_kept, .ref m_wanted, .ref m_chosenBy, .ref m_gone, .ref m_isFit, .ref m_bishopThen, .long 0, .ref m_images, .ref m_imageForce, .ref m_imageX, .ref m_isMade])), (m_tape, .inl (mk_tape, 400, .inl f_4))] := hD
  refine lv_iinc (v := 16) (lv' := [(2, .int 16), (0, .ref h0), (1, .int a0)]) hx hb dX12_four_30 hl (k := 0) rfl (by decide) (by decide) rfl (fun ls hl => ?_)
  refine lv_goto (tgt := 3) hx hb dX12_four_33 (by decide) ?_
  refine lv_iload_n hx hb dX12_four_3 rfl (lv_at hl 0 rfl) ?_
  refine lv_if_lt (tgt := 36) hx hb dX12_four_4 (by decide) (fun c_6 => absurd c_6 (by decide)) (fun c_6 => ?_)
  refine lv_aload_n hx hb dX12_four_7 rfl (lv_at hl 1 rfl) ?_
  refine va_get (D := (dC, dI)) (ci := 12) (v := .ref m_tape) (C := RX12) (T := TX12) (N := 38) hx hb hts iX12 hown hK hP 0 rfl rfl 0 (by decide) (hts _ tw_1125) (fun _ h9 => h9) rfl dX12_four_8 ?_
  refine lv_aload_n hx hb dX12_four_11 rfl (lv_at hl 1 rfl) ?_
  refine va_get (D := (dC, dI)) (ci := 12) (v := .int 17) (C := RX12) (T := TX12) (N := 38) hx hb hts iX12 hown hK hP 0 rfl rfl 1 (by decide) (hts _ tw_1126) (fun _ h9 => h9) rfl dX12_four_12 ?_
  refine lv_iload_n hx hb dX12_four_15 rfl (lv_at hl 2 rfl) ?_
  refine lv_iload_n hx hb dX12_four_16 rfl (lv_at hl 0 rfl) ?_
  refine lv_ishr hx hb dX12_four_17 ?_
  refine lv_topi (fun x_7 ex_7 => ?_)
  obtain ⟨x_8, ex_8⟩ : ∃ y : Int32, x_7.toInt8.toInt32 = y := ⟨_, rfl⟩
  refine lv_i2b (v := x_8) hx hb dX12_four_18 ex_8 ?_
  refine va_bast hx hb hK hP hD hS 1 0 rfl rfl (show vp_in 17 400 from (by decide : ¬ ((17 : Int32) < 0 ∨ 400 ≤ (17 : Int32).toNatClampNeg))) dX12_four_19 (fun H locs hP hD hS => ?_)
  have hP : va_P (dC, dI) vwCl [(h0, .inr (12, [.ref m_tape, .int 17, .int 0, .ref m_sign, .ref m_length, .ref m_clause, .ref m_clauses, .ref m_read, .int 0, .int 0, .int 0, .int 0, .int 0, .int 0, .int 0, .ref m_open, .int 0, .ref m_stack, .int 0, .ref m_word, .ref m_said, .int (-1), .int 0, .ref m_vote, .int 0, .ref m_wasSaid, .int 0, .ref m_kept, .ref m_wanted, .ref m_chosenBy, .ref m_gone, .ref m_isFit, .ref m_bishopThen, .long 0, .ref m_images, .ref m_imageForce, .ref m_imageX, .ref m_isMade])), (m_tape, .inl (mk_tape, 400, .inl (upd f_4 (Int32.toNatClampNeg 17) (vp_nar .byte x_8))))] H := hP
  have hD : va_D A [(h0, .inr (12, [.ref m_tape, .int 17, .int 0, .ref m_sign, .ref m_length, .ref m_clause, .ref m_clauses, .ref m_read, .int 0, .int 0, .int 0, .int 0, .int 0, .int 0, .int 0, .ref m_open, .int 0, .ref m_stack, .int 0, .ref m_word, .ref m_said, .int (-1), .int 0, .ref m_vote, .int 0, .ref m_wasSaid, .int 0, .ref m_kept, .ref m_wanted, .ref m_chosenBy, .ref m_gone, .ref m_isFit, .ref m_bishopThen, .long 0, .ref m_images, .ref m_imageForce, .ref m_imageX, .ref m_isMade])), (m_tape, .inl (mk_tape, 400, .inl (upd f_4 (Int32.toNatClampNeg 17) (vp_nar .byte x_8))))] := hD
  generalize upd f_4 (Int32.toNatClampNeg 17) (vp_nar .byte x_8) = f_9 at hP hD
  refine lv_aload_n hx hb dX12_four_20 rfl (lv_at hl 1 rfl) ?_
  refine lv_dup hx hb dX12_four_21 rfl ?_
  refine va_get (D := (dC, dI)) (ci := 12) (v := .int 17) (C := RX12) (T := TX12) (N := 38) hx hb hts iX12 hown hK hP 0 rfl rfl 1 (by decide) (hts _ tw_1126) (fun _ h9 => h9) rfl dX12_four_22 ?_
  refine lv_iconst (v := 1) hx hb dX12_four_25 (by decide) ?_
  refine lv_iadd hx hb dX12_four_26 ?_
  refine lv_topi (fun x_10 ex_10 => ?_)
  obtain rfl : x_10 = 18 := ex_10.trans (by decide)
  refine va_put (D := (dC, dI)) (ci := 12) (v := .int 18) (C := RX12) (T := TX12) (N := 38) hx hb hts iX12 tyX12 tyX12_ok nmX12 hown hK hP hD hS 0 rfl rfl 1 (by decide) (hts _ tw_1126) (fun _ h9 => h9) rfl (tyX12_ok 1 (by decide)) rfl rfl (Nat.le_of_ble_eq_true rfl) dX12_four_27 (fun H locs hP hD hS => ?_)
  have hP : va_P (dC, dI) vwCl [(h0, .inr (12, [.ref m_tape, .int 18, .int 0, .ref m_sign, .ref m_length, .ref m_clause, .ref m_clauses, .ref m_read, .int 0, .int 0, .int 0, .int 0, .int 0, .int 0, .int 0, .ref m_open, .int 0, .ref m_stack, .int 0, .ref m_word, .ref m_said, .int (-1), .int 0, .ref m_vote, .int 0, .ref m_wasSaid, .int 0, .ref m_kept, .ref m_wanted, .ref m_chosenBy, .ref m_gone, .ref m_isFit, .ref m_bishopThen, .long 0, .ref m_images, .ref m_imageForce, .ref m_imageX, .ref m_isMade])), (m_tape, .inl (mk_tape, 400, .inl f_9))] H := hP
  have hD : va_D A [(h0, .inr (12, [.ref m_tape, .int 18, .int 0, .ref m_sign, .ref m_length, .ref m_clause, .ref m_clauses, .ref m_read, .int 0, .int 0, .int 0, .int 0, .int 0, .int 0, .int 0, .ref m_open, .int 0, .ref m_stack, .int 0, .ref m_word, .ref m_said, .int (-1), .int 0, .ref m_vote, .int 0, .ref m_wasSaid, .int 0, .ref m_kept, .ref m_wanted, .ref m_chosenBy, .ref m_gone, .ref m_isFit, .ref m_bishopThen, .long 0, .ref m_images, .ref m_imageForce, .ref m_imageX, .ref m_isMade])), (m_tape, .inl (mk_tape, 400, .inl f_9))] := hD
  refine lv_iinc (v := 8) (lv' := [(2, .int 8), (0, .ref h0), (1, .int a0)]) hx hb dX12_four_30 hl (k := 0) rfl (by decide) (by decide) rfl (fun ls hl => ?_)
  refine lv_goto (tgt := 3) hx hb dX12_four_33 (by decide) ?_
  refine lv_iload_n hx hb dX12_four_3 rfl (lv_at hl 0 rfl) ?_
  refine lv_if_lt (tgt := 36) hx hb dX12_four_4 (by decide) (fun c_11 => absurd c_11 (by decide)) (fun c_11 => ?_)
  refine lv_aload_n hx hb dX12_four_7 rfl (lv_at hl 1 rfl) ?_
  refine va_get (D := (dC, dI)) (ci := 12) (v := .ref m_tape) (C := RX12) (T := TX12) (N := 38) hx hb hts iX12 hown hK hP 0 rfl rfl 0 (by decide) (hts _ tw_1125) (fun _ h9 => h9) rfl dX12_four_8 ?_
  refine lv_aload_n hx hb dX12_four_11 rfl (lv_at hl 1 rfl) ?_
  refine va_get (D := (dC, dI)) (ci := 12) (v := .int 18) (C := RX12) (T := TX12) (N := 38) hx hb hts iX12 hown hK hP 0 rfl rfl 1 (by decide) (hts _ tw_1126) (fun _ h9 => h9) rfl dX12_four_12 ?_
  refine lv_iload_n hx hb dX12_four_15 rfl (lv_at hl 2 rfl) ?_
  refine lv_iload_n hx hb dX12_four_16 rfl (lv_at hl 0 rfl) ?_
  refine lv_ishr hx hb dX12_four_17 ?_
  refine lv_topi (fun x_12 ex_12 => ?_)
  obtain ⟨x_13, ex_13⟩ : ∃ y : Int32, x_12.toInt8.toInt32 = y := ⟨_, rfl⟩
  refine lv_i2b (v := x_13) hx hb dX12_four_18 ex_13 ?_
  refine va_bast hx hb hK hP hD hS 1 0 rfl rfl (show vp_in 18 400 from (by decide : ¬ ((18 : Int32) < 0 ∨ 400 ≤ (18 : Int32).toNatClampNeg))) dX12_four_19 (fun H locs hP hD hS => ?_)
  have hP : va_P (dC, dI) vwCl [(h0, .inr (12, [.ref m_tape, .int 18, .int 0, .ref m_sign, .ref m_length, .ref m_clause, .ref m_clauses, .ref m_read, .int 0, .int 0, .int 0, .int 0, .int 0, .int 0, .int 0, .ref m_open, .int 0, .ref m_stack, .int 0, .ref m_word, .ref m_said, .int (-1), .int 0, .ref m_vote, .int 0, .ref m_wasSaid, .int 0, .ref m_kept, .ref m_wanted, .ref m_chosenBy, .ref m_gone, .ref m_isFit, .ref m_bishopThen, .long 0, .ref m_images, .ref m_imageForce, .ref m_imageX, .ref m_isMade])), (m_tape, .inl (mk_tape, 400, .inl (upd f_9 (Int32.toNatClampNeg 18) (vp_nar .byte x_13))))] H := hP
  have hD : va_D A [(h0, .inr (12, [.ref m_tape, .int 18, .int 0, .ref m_sign, .ref m_length, .ref m_clause, .ref m_clauses, .ref m_read, .int 0, .int 0, .int 0, .int 0, .int 0, .int 0, .int 0, .ref m_open, .int 0, .ref m_stack, .int 0, .ref m_word, .ref m_said, .int (-1), .int 0, .ref m_vote, .int 0, .ref m_wasSaid, .int 0, .ref m_kept, .ref m_wanted, .ref m_chosenBy, .ref m_gone, .ref m_isFit, .ref m_bishopThen, .long 0, .ref m_images, .ref m_imageForce, .ref m_imageX, .ref m_isMade])), (m_tape, .inl (mk_tape, 400, .inl (upd f_9 (Int32.toNatClampNeg 18) (vp_nar .byte x_13))))] := hD
  generalize upd f_9 (Int32.toNatClampNeg 18) (vp_nar .byte x_13) = f_14 at hP hD
  refine lv_aload_n hx hb dX12_four_20 rfl (lv_at hl 1 rfl) ?_
  refine lv_dup hx hb dX12_four_21 rfl ?_
  refine va_get (D := (dC, dI)) (ci := 12) (v := .int 18) (C := RX12) (T := TX12) (N := 38) hx hb hts iX12 hown hK hP 0 rfl rfl 1 (by decide) (hts _ tw_1126) (fun _ h9 => h9) rfl dX12_four_22 ?_
  refine lv_iconst (v := 1) hx hb dX12_four_25 (by decide) ?_
  refine lv_iadd hx hb dX12_four_26 ?_
  refine lv_topi (fun x_15 ex_15 => ?_)
  obtain rfl : x_15 = 19 := ex_15.trans (by decide)
  refine va_put (D := (dC, dI)) (ci := 12) (v := .int 19) (C := RX12) (T := TX12) (N := 38) hx hb hts iX12 tyX12 tyX12_ok nmX12 hown hK hP hD hS 0 rfl rfl 1 (by decide) (hts _ tw_1126) (fun _ h9 => h9) rfl (tyX12_ok 1 (by decide)) rfl rfl (Nat.le_of_ble_eq_true rfl) dX12_four_27 (fun H locs hP hD hS => ?_)
  have hP : va_P (dC, dI) vwCl [(h0, .inr (12, [.ref m_tape, .int 19, .int 0, .ref m_sign, .ref m_length, .ref m_clause, .ref m_clauses, .ref m_read, .int 0, .int 0, .int 0, .int 0, .int 0, .int 0, .int 0, .ref m_open, .int 0, .ref m_stack, .int 0, .ref m_word, .ref m_said, .int (-1), .int 0, .ref m_vote, .int 0, .ref m_wasSaid, .int 0, .ref m_kept, .ref m_wanted, .ref m_chosenBy, .ref m_gone, .ref m_isFit, .ref m_bishopThen, .long 0, .ref m_images, .ref m_imageForce, .ref m_imageX, .ref m_isMade])), (m_tape, .inl (mk_tape, 400, .inl f_14))] H := hP
  have hD : va_D A [(h0, .inr (12, [.ref m_tape, .int 19, .int 0, .ref m_sign, .ref m_length, .ref m_clause, .ref m_clauses, .ref m_read, .int 0, .int 0, .int 0, .int 0, .int 0, .int 0, .int 0, .ref m_open, .int 0, .ref m_stack, .int 0, .ref m_word, .ref m_said, .int (-1), .int 0, .ref m_vote, .int 0, .ref m_wasSaid, .int 0, .ref m_kept, .ref m_wanted, .ref m_chosenBy, .ref m_gone, .ref m_isFit, .ref m_bishopThen, .long 0, .ref m_images, .ref m_imageForce, .ref m_imageX, .ref m_isMade])), (m_tape, .inl (mk_tape, 400, .inl f_14))] := hD
  refine lv_iinc (v := 0) (lv' := [(2, .int 0), (0, .ref h0), (1, .int a0)]) hx hb dX12_four_30 hl (k := 0) rfl (by decide) (by decide) rfl (fun ls hl => ?_)
  refine lv_goto (tgt := 3) hx hb dX12_four_33 (by decide) ?_
  refine lv_iload_n hx hb dX12_four_3 rfl (lv_at hl 0 rfl) ?_
  refine lv_if_lt (tgt := 36) hx hb dX12_four_4 (by decide) (fun c_16 => absurd c_16 (by decide)) (fun c_16 => ?_)
  refine lv_aload_n hx hb dX12_four_7 rfl (lv_at hl 1 rfl) ?_
  refine va_get (D := (dC, dI)) (ci := 12) (v := .ref m_tape) (C := RX12) (T := TX12) (N := 38) hx hb hts iX12 hown hK hP 0 rfl rfl 0 (by decide) (hts _ tw_1125) (fun _ h9 => h9) rfl dX12_four_8 ?_
  refine lv_aload_n hx hb dX12_four_11 rfl (lv_at hl 1 rfl) ?_
  refine va_get (D := (dC, dI)) (ci := 12) (v := .int 19) (C := RX12) (T := TX12) (N := 38) hx hb hts iX12 hown hK hP 0 rfl rfl 1 (by decide) (hts _ tw_1126) (fun _ h9 => h9) rfl dX12_four_12 ?_
  refine lv_iload_n hx hb dX12_four_15 rfl (lv_at hl 2 rfl) ?_
  refine lv_iload_n hx hb dX12_four_16 rfl (lv_at hl 0 rfl) ?_
  refine lv_ishr hx hb dX12_four_17 ?_
  refine lv_topi (fun x_17 ex_17 => ?_)
  obtain ⟨x_18, ex_18⟩ : ∃ y : Int32, x_17.toInt8.toInt32 = y := ⟨_, rfl⟩
  refine lv_i2b (v := x_18) hx hb dX12_four_18 ex_18 ?_
  refine va_bast hx hb hK hP hD hS 1 0 rfl rfl (show vp_in 19 400 from (by decide : ¬ ((19 : Int32) < 0 ∨ 400 ≤ (19 : Int32).toNatClampNeg))) dX12_four_19 (fun H locs hP hD hS => ?_)
  have hP : va_P (dC, dI) vwCl [(h0, .inr (12, [.ref m_tape, .int 19, .int 0, .ref m_sign, .ref m_length, .ref m_clause, .ref m_clauses, .ref m_read, .int 0, .int 0, .int 0, .int 0, .int 0, .int 0, .int 0, .ref m_open, .int 0, .ref m_stack, .int 0, .ref m_word, .ref m_said, .int (-1), .int 0, .ref m_vote, .int 0, .ref m_wasSaid, .int 0, .ref m_kept, .ref m_wanted, .ref m_chosenBy, .ref m_gone, .ref m_isFit, .ref m_bishopThen, .long 0, .ref m_images, .ref m_imageForce, .ref m_imageX, .ref m_isMade])), (m_tape, .inl (mk_tape, 400, .inl (upd f_14 (Int32.toNatClampNeg 19) (vp_nar .byte x_18))))] H := hP
  have hD : va_D A [(h0, .inr (12, [.ref m_tape, .int 19, .int 0, .ref m_sign, .ref m_length, .ref m_clause, .ref m_clauses, .ref m_read, .int 0, .int 0, .int 0, .int 0, .int 0, .int 0, .int 0, .ref m_open, .int 0, .ref m_stack, .int 0, .ref m_word, .ref m_said, .int (-1), .int 0, .ref m_vote, .int 0, .ref m_wasSaid, .int 0, .ref m_kept, .ref m_wanted, .ref m_chosenBy, .ref m_gone, .ref m_isFit, .ref m_bishopThen, .long 0, .ref m_images, .ref m_imageForce, .ref m_imageX, .ref m_isMade])), (m_tape, .inl (mk_tape, 400, .inl (upd f_14 (Int32.toNatClampNeg 19) (vp_nar .byte x_18))))] := hD
  generalize upd f_14 (Int32.toNatClampNeg 19) (vp_nar .byte x_18) = f_19 at hP hD
  refine lv_aload_n hx hb dX12_four_20 rfl (lv_at hl 1 rfl) ?_
  refine lv_dup hx hb dX12_four_21 rfl ?_
  refine va_get (D := (dC, dI)) (ci := 12) (v := .int 19) (C := RX12) (T := TX12) (N := 38) hx hb hts iX12 hown hK hP 0 rfl rfl 1 (by decide) (hts _ tw_1126) (fun _ h9 => h9) rfl dX12_four_22 ?_
  refine lv_iconst (v := 1) hx hb dX12_four_25 (by decide) ?_
  refine lv_iadd hx hb dX12_four_26 ?_
  refine lv_topi (fun x_20 ex_20 => ?_)
  obtain rfl : x_20 = 20 := ex_20.trans (by decide)
  refine va_put (D := (dC, dI)) (ci := 12) (v := .int 20) (C := RX12) (T := TX12) (N := 38) hx hb hts iX12 tyX12 tyX12_ok nmX12 hown hK hP hD hS 0 rfl rfl 1 (by decide) (hts _ tw_1126) (fun _ h9 => h9) rfl (tyX12_ok 1 (by decide)) rfl rfl (Nat.le_of_ble_eq_true rfl) dX12_four_27 (fun H locs hP hD hS => ?_)
  have hP : va_P (dC, dI) vwCl [(h0, .inr (12, [.ref m_tape, .int 20, .int 0, .ref m_sign, .ref m_length, .ref m_clause, .ref m_clauses, .ref m_read, .int 0, .int 0, .int 0, .int 0, .int 0, .int 0, .int 0, .ref m_open, .int 0, .ref m_stack, .int 0, .ref m_word, .ref m_said, .int (-1), .int 0, .ref m_vote, .int 0, .ref m_wasSaid, .int 0, .ref m_kept, .ref m_wanted, .ref m_chosenBy, .ref m_gone, .ref m_isFit, .ref m_bishopThen, .long 0, .ref m_images, .ref m_imageForce, .ref m_imageX, .ref m_isMade])), (m_tape, .inl (mk_tape, 400, .inl f_19))] H := hP
  have hD : va_D A [(h0, .inr (12, [.ref m_tape, .int 20, .int 0, .ref m_sign, .ref m_length, .ref m_clause, .ref m_clauses, .ref m_read, .int 0, .int 0, .int 0, .int 0, .int 0, .int 0, .int 0, .ref m_open, .int 0, .ref m_stack, .int 0, .ref m_word, .ref m_said, .int (-1), .int 0, .ref m_vote, .int 0, .ref m_wasSaid, .int 0, .ref m_kept, .ref m_wanted, .ref m_chosenBy, .ref m_gone, .ref m_isFit, .ref m_bishopThen, .long 0, .ref m_images, .ref m_imageForce, .ref m_imageX, .ref m_isMade])), (m_tape, .inl (mk_tape, 400, .inl f_19))] := hD
  refine lv_iinc (v := (-8)) (lv' := [(2, .int (-8)), (0, .ref h0), (1, .int a0)]) hx hb dX12_four_30 hl (k := 0) rfl (by decide) (by decide) rfl (fun ls hl => ?_)
  refine lv_goto (tgt := 3) hx hb dX12_four_33 (by decide) ?_
  refine lv_iload_n hx hb dX12_four_3 rfl (lv_at hl 0 rfl) ?_
  refine lv_if_lt (tgt := 36) hx hb dX12_four_4 (by decide) (fun c_21 => ?_) (fun c_21 => absurd (by decide) c_21)
  have hP9 := hP.sub (ws' := [(h0, .inr (12, [.ref m_tape, .int 20, .int 0, .ref m_sign, .ref m_length, .ref m_clause, .ref m_clauses, .ref m_read, .int 0, .int 0, .int 0, .int 0, .int 0, .int 0, .int 0, .ref m_open, .int 0, .ref m_stack, .int 0, .ref m_word, .ref m_said, .int (-1), .int 0, .ref m_vote, .int 0, .ref m_wasSaid, .int 0, .ref m_kept, .ref m_wanted, .ref m_chosenBy, .ref m_gone, .ref m_isFit, .ref m_bishopThen, .long 0, .ref m_images, .ref m_imageForce, .ref m_imageX, .ref m_isMade])), (m_tape, .inl (mk_tape, 400, .inl f_19))]) [0, 1] rfl
  have hD9 := hD.sub (ws' := [(h0, .inr (12, [.ref m_tape, .int 20, .int 0, .ref m_sign, .ref m_length, .ref m_clause, .ref m_clauses, .ref m_read, .int 0, .int 0, .int 0, .int 0, .int 0, .int 0, .int 0, .ref m_open, .int 0, .ref m_stack, .int 0, .ref m_word, .ref m_said, .int (-1), .int 0, .ref m_vote, .int 0, .ref m_wasSaid, .int 0, .ref m_kept, .ref m_wanted, .ref m_chosenBy, .ref m_gone, .ref m_isFit, .ref m_bishopThen, .long 0, .ref m_images, .ref m_imageForce, .ref m_imageX, .ref m_isMade])), (m_tape, .inl (mk_tape, 400, .inl f_19))]) [0, 1] (by decide) rfl
  have hK9 := hK.sub (tys' := [(mk_tape, .byte)]) [0] rfl
  refine W.widen (k := 0) (n := 0) (Nat.le_of_ble_eq_true rfl) (Nat.le_of_ble_eq_true rfl) ?_
  exact W.vret hx hb hr (fun t ht hW => ⟨⟨(), rfl, trivial, ⟨f_19, by rw [ht]; exact hP9, va_K.moved hW.alike hK9, hD9⟩⟩, hS.F ht⟩) hS.2.2 dX12_four_36
set_option maxHeartbeats 4000000 in
set_option maxRecDepth 100000 in
theorem m_feed (l : Launch) (dC : Nat → ClassId) (dI : Nat → Nat → Nat) (h0 : Nat) (m_tape : Nat) (m_sign : Nat) (m_length : Nat) (m_clause : Nat) (m_clauses : Nat) (m_read : Nat) (m_open : Nat) (m_stack : Nat) (m_word : Nat) (m_said : Nat) (m_vote : Nat) (m_wasSaid : Nat) (m_kept : Nat) (m_wanted : Nat) (m_chosenBy : Nat) (m_gone : Nat) (m_isFit : Nat) (m_bishopThen : Nat) (m_images : Nat) (m_imageForce : Nat) (m_imageX : Nat) (m_isMade : Nat) (mk_tape : ClassId) (f : Nat → Int32) (a0 : Int32) (a1 : Int32) (a2 : Int32) (a3 : Int32) (a4 : Int32) (sz : Nat) : Met l yX12_feed (ws_u yX12_feed cX12_feed 6 (some .int)) ({ frames := 1, cells := 0, slots := 0, locals := 22 }) (va_Pc [.ref h0, .int a0, .int a1, .int a2, .int a3, .int a4] (cPre (dC, dI) [(mk_tape, .byte)] [(h0, .inr (12, [.ref m_tape, .int 0, .int 0, .ref m_sign, .ref m_length, .ref m_clause, .ref m_clauses, .ref m_read, .int 0, .int 0, .int 0, .int 0, .int 0, .int 0, .int 0, .ref m_open, .int 0, .ref m_stack, .int 0, .ref m_word, .ref m_said, .int (-1), .int 0, .ref m_vote, .int 0, .ref m_wasSaid, .int 0, .ref m_kept, .ref m_wanted, .ref m_chosenBy, .ref m_gone, .ref m_isFit, .ref m_bishopThen, .long 0, .ref m_images, .ref m_imageForce, .ref m_imageX, .ref m_isMade])), (m_tape, .inl (mk_tape, 400, .inl f))] sz)) (va_Qi (fun (r : Int32) (_ : Unit) => r = 20) (fun _ _ => True) (va_A [(h0, .inr (12, [.ref m_tape, .int 0, .int 0, .ref m_sign, .ref m_length, .ref m_clause, .ref m_clauses, .ref m_read, .int 0, .int 0, .int 0, .int 0, .int 0, .int 0, .int 0, .ref m_open, .int 0, .ref m_stack, .int 0, .ref m_word, .ref m_said, .int (-1), .int 0, .ref m_vote, .int 0, .ref m_wasSaid, .int 0, .ref m_kept, .ref m_wanted, .ref m_chosenBy, .ref m_gone, .ref m_isFit, .ref m_bishopThen, .long 0, .ref m_images, .ref m_imageForce, .ref m_imageX, .ref m_isMade])), (m_tape, .inl (mk_tape, 400, .inl f))] sz)) 0 0 (va_A [(h0, .inr (12, [.ref m_tape, .int 0, .int 0, .ref m_sign, .ref m_length, .ref m_clause, .ref m_clauses, .ref m_read, .int 0, .int 0, .int 0, .int 0, .int 0, .int 0, .int 0, .ref m_open, .int 0, .ref m_stack, .int 0, .ref m_word, .ref m_said, .int (-1), .int 0, .ref m_vote, .int 0, .ref m_wasSaid, .int 0, .ref m_kept, .ref m_wanted, .ref m_chosenBy, .ref m_gone, .ref m_isFit, .ref m_bishopThen, .long 0, .ref m_images, .ref m_imageForce, .ref m_imageX, .ref m_isMade])), (m_tape, .inl (mk_tape, 400, .inl f))] sz) := by
  refine Met.ofW (cc := cX12_feed) (maxL := 6) (ret := (some .int)) (by decide) rfl ?_
  intro p e s m args below meth c s₁ B hml hv
  obtain ⟨rfl, hsz, hP, hK, hD0, hE⟩ := hv
  have hx := B.exec
  have hb := B.bytes
  have hr := B.returns
  have hts0 := atoms_spec (ws := ws_u yX12_feed cX12_feed 6 (some .int)) B.pre
  have hts : ∀ w ∈ gT, w.before _ s = true := fun w h => hts0 w (List.mem_cons_of_mem _ h)
  have hown : s.vm.findClass RX12 = some m.cls := findClass_of_methodNamed B.named
  have hlocks := B.notSynchronized
  subst hsz
  have hD := hD0.self (sz := s.heap.size)
  generalize hAe : va_A [(h0, .inr (12, [.ref m_tape, .int 0, .int 0, .ref m_sign, .ref m_length, .ref m_clause, .ref m_clauses, .ref m_read, .int 0, .int 0, .int 0, .int 0, .int 0, .int 0, .int 0, .ref m_open, .int 0, .ref m_stack, .int 0, .ref m_word, .ref m_said, .int (-1), .int 0, .ref m_vote, .int 0, .ref m_wasSaid, .int 0, .ref m_kept, .ref m_wanted, .ref m_chosenBy, .ref m_gone, .ref m_isFit, .ref m_bishopThen, .long 0, .ref m_images, .ref m_imageForce, .ref m_imageX, .ref m_isMade])), (m_tape, .inl (mk_tape, 400, .inl f))] s.heap.size = A at hD ⊢
  have hA : ∀ q : Nat, s.heap.size ≤ q → A q := fun q h => by rw [← hAe]; exact Or.inr h
  have hS : va_S A s.heap s.heap [] := va_S.rf
  have hl := lv_entry ([.ref h0, .int a0, .int a1, .int a2, .int a3, .int a4]) (n := 6) (Nat.le_of_ble_eq_true rfl)
  rw [lg_entry_eq]
  generalize (lg_sl ([.ref h0, .int a0, .int a1, .int a2, .int a3, .int a4]) ++ List.replicate (6 - (lg_sl ([.ref h0, .int a0, .int a1, .int a2, .int a3, .int a4])).length) Slot.unset).toArray = ls at hl ⊢
  have hl : lv_has ls 6 [(0, .ref h0), (1, .int a0), (2, .int a1), (3, .int a2), (4, .int a3), (5, .int a4)] := hl
  have hP : va_P (dC, dI) vwCl [(h0, .inr (12, [.ref m_tape, .int 0, .int 0, .ref m_sign, .ref m_length, .ref m_clause, .ref m_clauses, .ref m_read, .int 0, .int 0, .int 0, .int 0, .int 0, .int 0, .int 0, .ref m_open, .int 0, .ref m_stack, .int 0, .ref m_word, .ref m_said, .int (-1), .int 0, .ref m_vote, .int 0, .ref m_wasSaid, .int 0, .ref m_kept, .ref m_wanted, .ref m_chosenBy, .ref m_gone, .ref m_isFit, .ref m_bishopThen, .long 0, .ref m_images, .ref m_imageForce, .ref m_imageX, .ref m_isMade])), (m_tape, .inl (mk_tape, 400, .inl f))] s.heap := hP
  try clear hAe
  refine lv_aload_n hx hb dX12_feed_0 rfl (lv_at hl 0 rfl) ?_
  refine va_get (D := (dC, dI)) (ci := 12) (v := .int 0) (C := RX12) (T := TX12) (N := 38) hx hb hts iX12 hown hK hP 0 rfl rfl 1 (by decide) (hts _ tw_1126) (fun _ h9 => h9) rfl dX12_feed_1 ?_
  refine lv_bipush (v := 20) hx hb dX12_feed_4 (by decide) ?_
  refine lv_iadd hx hb dX12_feed_6 ?_
  refine lv_topi (fun x_1 ex_1 => ?_)
  obtain rfl : x_1 = 20 := ex_1.trans (by decide)
  refine lv_sipush (v := 400) hx hb dX12_feed_7 (by decide) ?_
  refine lv_icmp_le (tgt := 15) hx hb dX12_feed_10 (by decide) (fun c_2 => ?_) (fun c_2 => absurd (by decide) c_2)
  refine lv_aload_n hx hb dX12_feed_15 rfl (lv_at hl 0 rfl) ?_
  refine lv_iload_n hx hb dX12_feed_16 rfl (lv_at hl 1 rfl) ?_
  have hPc := hP.sub (ws' := [(h0, .inr (12, [.ref m_tape, .int 0, .int 0, .ref m_sign, .ref m_length, .ref m_clause, .ref m_clauses, .ref m_read, .int 0, .int 0, .int 0, .int 0, .int 0, .int 0, .int 0, .ref m_open, .int 0, .ref m_stack, .int 0, .ref m_word, .ref m_said, .int (-1), .int 0, .ref m_vote, .int 0, .ref m_wasSaid, .int 0, .ref m_kept, .ref m_wanted, .ref m_chosenBy, .ref m_gone, .ref m_isFit, .ref m_bishopThen, .long 0, .ref m_images, .ref m_imageForce, .ref m_imageX, .ref m_isMade])), (m_tape, .inl (mk_tape, 400, .inl f))]) [0, 1] rfl
  have hDc := hD.sub (ws' := [(h0, .inr (12, [.ref m_tape, .int 0, .int 0, .ref m_sign, .ref m_length, .ref m_clause, .ref m_clauses, .ref m_read, .int 0, .int 0, .int 0, .int 0, .int 0, .int 0, .int 0, .ref m_open, .int 0, .ref m_stack, .int 0, .ref m_word, .ref m_said, .int (-1), .int 0, .ref m_vote, .int 0, .ref m_wasSaid, .int 0, .ref m_kept, .ref m_wanted, .ref m_chosenBy, .ref m_gone, .ref m_isFit, .ref m_bishopThen, .long 0, .ref m_images, .ref m_imageForce, .ref m_imageX, .ref m_isMade])), (m_tape, .inl (mk_tape, 400, .inl f))]) [0, 1] (by decide) rfl
  have hKc := hK.sub (tys' := [(mk_tape, .byte)]) [0] rfl
  have hFc := va_free (wc := [(h0, .inr (12, [.ref m_tape, .int 0, .int 0, .ref m_sign, .ref m_length, .ref m_clause, .ref m_clauses, .ref m_read, .int 0, .int 0, .int 0, .int 0, .int 0, .int 0, .int 0, .ref m_open, .int 0, .ref m_stack, .int 0, .ref m_word, .ref m_said, .int (-1), .int 0, .ref m_vote, .int 0, .ref m_wasSaid, .int 0, .ref m_kept, .ref m_wanted, .ref m_chosenBy, .ref m_gone, .ref m_isFit, .ref m_bishopThen, .long 0, .ref m_images, .ref m_imageForce, .ref m_imageX, .ref m_isMade])), (m_tape, .inl (mk_tape, 400, .inl f))]) hD hS hA [0, 1] rfl
  refine va_callv (va_runV (As := [.int a0]) (rest := []) ⟨hx, hb, hml, hown, hts⟩ (m_four_0 l dC dI h0 m_tape m_sign m_length m_clause m_clauses m_read m_open m_stack m_word m_said m_vote m_wasSaid m_kept m_wanted m_chosenBy m_gone m_isFit m_bishopThen m_images m_imageForce m_imageX m_isMade mk_tape f a0  s.heap.size) (cwV 1 hts (gUV tw_1244 tw_1246 ts_3_0 tw_13 tw_1247) rfl rfl rfl (by decide +kernel) ⟨(Nat.le_of_ble_eq_true rfl), (Nat.le_of_ble_eq_true rfl)⟩) ⟨cPre.blind, va_recv hKc hPc (ci := 12) (q0 := 0) rfl rfl, cPre.use hPc hKc hDc hE⟩ rfl rfl hl.1 rfl (lv_room (Nat.le_of_ble_eq_true rfl)) dX12_feed_17 ⟨(Nat.le_of_ble_eq_true rfl), (Nat.le_of_ble_eq_true rfl)⟩) hS (fun q _ h => hFc q h) hFc (fun u t H1 locs ht hvm hw hB hz1 hk1 hS => ?_)
  obtain ⟨g_4, hP1, hK1, hD1⟩ := hB
  rw [ht] at hP1
  obtain ⟨hP, hD⟩ := va_join (wr := []) (w1 := [(h0, .inr (12, [.ref m_tape, .int 4, .int 0, .ref m_sign, .ref m_length, .ref m_clause, .ref m_clauses, .ref m_read, .int 0, .int 0, .int 0, .int 0, .int 0, .int 0, .int 0, .ref m_open, .int 0, .ref m_stack, .int 0, .ref m_word, .ref m_said, .int (-1), .int 0, .ref m_vote, .int 0, .ref m_wasSaid, .int 0, .ref m_kept, .ref m_wanted, .ref m_chosenBy, .ref m_gone, .ref m_isFit, .ref m_bishopThen, .long 0, .ref m_images, .ref m_imageForce, .ref m_imageX, .ref m_isMade])), (m_tape, .inl (mk_tape, 400, .inl g_4))]) hP hD [0, 1] [] rfl rfl (by decide) (by decide) hk1 hFc hP1 hD1
  generalize H1 = H at hP hS ⊢
  have hP : va_P (dC, dI) vwCl [(h0, .inr (12, [.ref m_tape, .int 4, .int 0, .ref m_sign, .ref m_length, .ref m_clause, .ref m_clauses, .ref m_read, .int 0, .int 0, .int 0, .int 0, .int 0, .int 0, .int 0, .ref m_open, .int 0, .ref m_stack, .int 0, .ref m_word, .ref m_said, .int (-1), .int 0, .ref m_vote, .int 0, .ref m_wasSaid, .int 0, .ref m_kept, .ref m_wanted, .ref m_chosenBy, .ref m_gone, .ref m_isFit, .ref m_bishopThen, .long 0, .ref m_images, .ref m_imageForce, .ref m_imageX, .ref m_isMade])), (m_tape, .inl (mk_tape, 400, .inl g_4))] H := hP
  have hD : va_D A [(h0, .inr (12, [.ref m_tape, .int 4, .int 0, .ref m_sign, .ref m_length, .ref m_clause, .ref m_clauses, .ref m_read, .int 0, .int 0, .int 0, .int 0, .int 0, .int 0, .int 0, .ref m_open, .int 0, .ref m_stack, .int 0, .ref m_word, .ref m_said, .int (-1), .int 0, .ref m_vote, .int 0, .ref m_wasSaid, .int 0, .ref m_kept, .ref m_wanted, .ref m_chosenBy, .ref m_gone, .ref m_isFit, .ref m_bishopThen, .long 0, .ref m_images, .ref m_imageForce, .ref m_imageX, .ref m_isMade])), (m_tape, .inl (mk_tape, 400, .inl g_4))] := hD
  refine lv_aload_n hx hb dX12_feed_20 rfl (lv_at hl 0 rfl) ?_
  refine lv_iload_n hx hb dX12_feed_21 rfl (lv_at hl 2 rfl) ?_
  have hPc := hP.sub (ws' := [(h0, .inr (12, [.ref m_tape, .int 4, .int 0, .ref m_sign, .ref m_length, .ref m_clause, .ref m_clauses, .ref m_read, .int 0, .int 0, .int 0, .int 0, .int 0, .int 0, .int 0, .ref m_open, .int 0, .ref m_stack, .int 0, .ref m_word, .ref m_said, .int (-1), .int 0, .ref m_vote, .int 0, .ref m_wasSaid, .int 0, .ref m_kept, .ref m_wanted, .ref m_chosenBy, .ref m_gone, .ref m_isFit, .ref m_bishopThen, .long 0, .ref m_images, .ref m_imageForce, .ref m_imageX, .ref m_isMade])), (m_tape, .inl (mk_tape, 400, .inl g_4))]) [0, 1] rfl
  have hDc := hD.sub (ws' := [(h0, .inr (12, [.ref m_tape, .int 4, .int 0, .ref m_sign, .ref m_length, .ref m_clause, .ref m_clauses, .ref m_read, .int 0, .int 0, .int 0, .int 0, .int 0, .int 0, .int 0, .ref m_open, .int 0, .ref m_stack, .int 0, .ref m_word, .ref m_said, .int (-1), .int 0, .ref m_vote, .int 0, .ref m_wasSaid, .int 0, .ref m_kept, .ref m_wanted, .ref m_chosenBy, .ref m_gone, .ref m_isFit, .ref m_bishopThen, .long 0, .ref m_images, .ref m_imageForce, .ref m_imageX, .ref m_isMade])), (m_tape, .inl (mk_tape, 400, .inl g_4))]) [0, 1] (by decide) rfl
  have hKc := hK.sub (tys' := [(mk_tape, .byte)]) [0] rfl
  have hFc := va_free (wc := [(h0, .inr (12, [.ref m_tape, .int 4, .int 0, .ref m_sign, .ref m_length, .ref m_clause, .ref m_clauses, .ref m_read, .int 0, .int 0, .int 0, .int 0, .int 0, .int 0, .int 0, .ref m_open, .int 0, .ref m_stack, .int 0, .ref m_word, .ref m_said, .int (-1), .int 0, .ref m_vote, .int 0, .ref m_wasSaid, .int 0, .ref m_kept, .ref m_wanted, .ref m_chosenBy, .ref m_gone, .ref m_isFit, .ref m_bishopThen, .long 0, .ref m_images, .ref m_imageForce, .ref m_imageX, .ref m_isMade])), (m_tape, .inl (mk_tape, 400, .inl g_4))]) hD hS hA [0, 1] rfl
  refine va_callv (va_runV (As := [.int a1]) (rest := []) ⟨hx, hb, hml, hown, hts⟩ (m_four_4 l dC dI h0 m_tape m_sign m_length m_clause m_clauses m_read m_open m_stack m_word m_said m_vote m_wasSaid m_kept m_wanted m_chosenBy m_gone m_isFit m_bishopThen m_images m_imageForce m_imageX m_isMade mk_tape g_4 a1  H.size) (cwV 1 hts (gUV tw_1244 tw_1246 ts_3_0 tw_13 tw_1247) rfl rfl rfl (by decide +kernel) ⟨(Nat.le_of_ble_eq_true rfl), (Nat.le_of_ble_eq_true rfl)⟩) ⟨cPre.blind, va_recv hKc hPc (ci := 12) (q0 := 0) rfl rfl, cPre.use hPc hKc hDc hE⟩ rfl rfl hl.1 rfl (lv_room (Nat.le_of_ble_eq_true rfl)) dX12_feed_22 ⟨(Nat.le_of_ble_eq_true rfl), (Nat.le_of_ble_eq_true rfl)⟩) hS (fun q _ h => hFc q h) hFc (fun u t H1 locs ht hvm hw hB hz1 hk1 hS => ?_)
  obtain ⟨g_6, hP1, hK1, hD1⟩ := hB
  rw [ht] at hP1
  obtain ⟨hP, hD⟩ := va_join (wr := []) (w1 := [(h0, .inr (12, [.ref m_tape, .int 8, .int 0, .ref m_sign, .ref m_length, .ref m_clause, .ref m_clauses, .ref m_read, .int 0, .int 0, .int 0, .int 0, .int 0, .int 0, .int 0, .ref m_open, .int 0, .ref m_stack, .int 0, .ref m_word, .ref m_said, .int (-1), .int 0, .ref m_vote, .int 0, .ref m_wasSaid, .int 0, .ref m_kept, .ref m_wanted, .ref m_chosenBy, .ref m_gone, .ref m_isFit, .ref m_bishopThen, .long 0, .ref m_images, .ref m_imageForce, .ref m_imageX, .ref m_isMade])), (m_tape, .inl (mk_tape, 400, .inl g_6))]) hP hD [0, 1] [] rfl rfl (by decide) (by decide) hk1 hFc hP1 hD1
  generalize H1 = H at hP hS ⊢
  have hP : va_P (dC, dI) vwCl [(h0, .inr (12, [.ref m_tape, .int 8, .int 0, .ref m_sign, .ref m_length, .ref m_clause, .ref m_clauses, .ref m_read, .int 0, .int 0, .int 0, .int 0, .int 0, .int 0, .int 0, .ref m_open, .int 0, .ref m_stack, .int 0, .ref m_word, .ref m_said, .int (-1), .int 0, .ref m_vote, .int 0, .ref m_wasSaid, .int 0, .ref m_kept, .ref m_wanted, .ref m_chosenBy, .ref m_gone, .ref m_isFit, .ref m_bishopThen, .long 0, .ref m_images, .ref m_imageForce, .ref m_imageX, .ref m_isMade])), (m_tape, .inl (mk_tape, 400, .inl g_6))] H := hP
  have hD : va_D A [(h0, .inr (12, [.ref m_tape, .int 8, .int 0, .ref m_sign, .ref m_length, .ref m_clause, .ref m_clauses, .ref m_read, .int 0, .int 0, .int 0, .int 0, .int 0, .int 0, .int 0, .ref m_open, .int 0, .ref m_stack, .int 0, .ref m_word, .ref m_said, .int (-1), .int 0, .ref m_vote, .int 0, .ref m_wasSaid, .int 0, .ref m_kept, .ref m_wanted, .ref m_chosenBy, .ref m_gone, .ref m_isFit, .ref m_bishopThen, .long 0, .ref m_images, .ref m_imageForce, .ref m_imageX, .ref m_isMade])), (m_tape, .inl (mk_tape, 400, .inl g_6))] := hD
  refine lv_aload_n hx hb dX12_feed_25 rfl (lv_at hl 0 rfl) ?_
  refine lv_iload_n hx hb dX12_feed_26 rfl (lv_at hl 3 rfl) ?_
  have hPc := hP.sub (ws' := [(h0, .inr (12, [.ref m_tape, .int 8, .int 0, .ref m_sign, .ref m_length, .ref m_clause, .ref m_clauses, .ref m_read, .int 0, .int 0, .int 0, .int 0, .int 0, .int 0, .int 0, .ref m_open, .int 0, .ref m_stack, .int 0, .ref m_word, .ref m_said, .int (-1), .int 0, .ref m_vote, .int 0, .ref m_wasSaid, .int 0, .ref m_kept, .ref m_wanted, .ref m_chosenBy, .ref m_gone, .ref m_isFit, .ref m_bishopThen, .long 0, .ref m_images, .ref m_imageForce, .ref m_imageX, .ref m_isMade])), (m_tape, .inl (mk_tape, 400, .inl g_6))]) [0, 1] rfl
  have hDc := hD.sub (ws' := [(h0, .inr (12, [.ref m_tape, .int 8, .int 0, .ref m_sign, .ref m_length, .ref m_clause, .ref m_clauses, .ref m_read, .int 0, .int 0, .int 0, .int 0, .int 0, .int 0, .int 0, .ref m_open, .int 0, .ref m_stack, .int 0, .ref m_word, .ref m_said, .int (-1), .int 0, .ref m_vote, .int 0, .ref m_wasSaid, .int 0, .ref m_kept, .ref m_wanted, .ref m_chosenBy, .ref m_gone, .ref m_isFit, .ref m_bishopThen, .long 0, .ref m_images, .ref m_imageForce, .ref m_imageX, .ref m_isMade])), (m_tape, .inl (mk_tape, 400, .inl g_6))]) [0, 1] (by decide) rfl
  have hKc := hK.sub (tys' := [(mk_tape, .byte)]) [0] rfl
  have hFc := va_free (wc := [(h0, .inr (12, [.ref m_tape, .int 8, .int 0, .ref m_sign, .ref m_length, .ref m_clause, .ref m_clauses, .ref m_read, .int 0, .int 0, .int 0, .int 0, .int 0, .int 0, .int 0, .ref m_open, .int 0, .ref m_stack, .int 0, .ref m_word, .ref m_said, .int (-1), .int 0, .ref m_vote, .int 0, .ref m_wasSaid, .int 0, .ref m_kept, .ref m_wanted, .ref m_chosenBy, .ref m_gone, .ref m_isFit, .ref m_bishopThen, .long 0, .ref m_images, .ref m_imageForce, .ref m_imageX, .ref m_isMade])), (m_tape, .inl (mk_tape, 400, .inl g_6))]) hD hS hA [0, 1] rfl
  refine va_callv (va_runV (As := [.int a2]) (rest := []) ⟨hx, hb, hml, hown, hts⟩ (m_four_8 l dC dI h0 m_tape m_sign m_length m_clause m_clauses m_read m_open m_stack m_word m_said m_vote m_wasSaid m_kept m_wanted m_chosenBy m_gone m_isFit m_bishopThen m_images m_imageForce m_imageX m_isMade mk_tape g_6 a2  H.size) (cwV 1 hts (gUV tw_1244 tw_1246 ts_3_0 tw_13 tw_1247) rfl rfl rfl (by decide +kernel) ⟨(Nat.le_of_ble_eq_true rfl), (Nat.le_of_ble_eq_true rfl)⟩) ⟨cPre.blind, va_recv hKc hPc (ci := 12) (q0 := 0) rfl rfl, cPre.use hPc hKc hDc hE⟩ rfl rfl hl.1 rfl (lv_room (Nat.le_of_ble_eq_true rfl)) dX12_feed_27 ⟨(Nat.le_of_ble_eq_true rfl), (Nat.le_of_ble_eq_true rfl)⟩) hS (fun q _ h => hFc q h) hFc (fun u t H1 locs ht hvm hw hB hz1 hk1 hS => ?_)
  obtain ⟨g_8, hP1, hK1, hD1⟩ := hB
  rw [ht] at hP1
  obtain ⟨hP, hD⟩ := va_join (wr := []) (w1 := [(h0, .inr (12, [.ref m_tape, .int 12, .int 0, .ref m_sign, .ref m_length, .ref m_clause, .ref m_clauses, .ref m_read, .int 0, .int 0, .int 0, .int 0, .int 0, .int 0, .int 0, .ref m_open, .int 0, .ref m_stack, .int 0, .ref m_word, .ref m_said, .int (-1), .int 0, .ref m_vote, .int 0, .ref m_wasSaid, .int 0, .ref m_kept, .ref m_wanted, .ref m_chosenBy, .ref m_gone, .ref m_isFit, .ref m_bishopThen, .long 0, .ref m_images, .ref m_imageForce, .ref m_imageX, .ref m_isMade])), (m_tape, .inl (mk_tape, 400, .inl g_8))]) hP hD [0, 1] [] rfl rfl (by decide) (by decide) hk1 hFc hP1 hD1
  generalize H1 = H at hP hS ⊢
  have hP : va_P (dC, dI) vwCl [(h0, .inr (12, [.ref m_tape, .int 12, .int 0, .ref m_sign, .ref m_length, .ref m_clause, .ref m_clauses, .ref m_read, .int 0, .int 0, .int 0, .int 0, .int 0, .int 0, .int 0, .ref m_open, .int 0, .ref m_stack, .int 0, .ref m_word, .ref m_said, .int (-1), .int 0, .ref m_vote, .int 0, .ref m_wasSaid, .int 0, .ref m_kept, .ref m_wanted, .ref m_chosenBy, .ref m_gone, .ref m_isFit, .ref m_bishopThen, .long 0, .ref m_images, .ref m_imageForce, .ref m_imageX, .ref m_isMade])), (m_tape, .inl (mk_tape, 400, .inl g_8))] H := hP
  have hD : va_D A [(h0, .inr (12, [.ref m_tape, .int 12, .int 0, .ref m_sign, .ref m_length, .ref m_clause, .ref m_clauses, .ref m_read, .int 0, .int 0, .int 0, .int 0, .int 0, .int 0, .int 0, .ref m_open, .int 0, .ref m_stack, .int 0, .ref m_word, .ref m_said, .int (-1), .int 0, .ref m_vote, .int 0, .ref m_wasSaid, .int 0, .ref m_kept, .ref m_wanted, .ref m_chosenBy, .ref m_gone, .ref m_isFit, .ref m_bishopThen, .long 0, .ref m_images, .ref m_imageForce, .ref m_imageX, .ref m_isMade])), (m_tape, .inl (mk_tape, 400, .inl g_8))] := hD
  refine lv_aload_n hx hb dX12_feed_30 rfl (lv_at hl 0 rfl) ?_
  refine lv_iload hx hb dX12_feed_31 (lv_at hl 4 rfl) ?_
  have hPc := hP.sub (ws' := [(h0, .inr (12, [.ref m_tape, .int 12, .int 0, .ref m_sign, .ref m_length, .ref m_clause, .ref m_clauses, .ref m_read, .int 0, .int 0, .int 0, .int 0, .int 0, .int 0, .int 0, .ref m_open, .int 0, .ref m_stack, .int 0, .ref m_word, .ref m_said, .int (-1), .int 0, .ref m_vote, .int 0, .ref m_wasSaid, .int 0, .ref m_kept, .ref m_wanted, .ref m_chosenBy, .ref m_gone, .ref m_isFit, .ref m_bishopThen, .long 0, .ref m_images, .ref m_imageForce, .ref m_imageX, .ref m_isMade])), (m_tape, .inl (mk_tape, 400, .inl g_8))]) [0, 1] rfl
  have hDc := hD.sub (ws' := [(h0, .inr (12, [.ref m_tape, .int 12, .int 0, .ref m_sign, .ref m_length, .ref m_clause, .ref m_clauses, .ref m_read, .int 0, .int 0, .int 0, .int 0, .int 0, .int 0, .int 0, .ref m_open, .int 0, .ref m_stack, .int 0, .ref m_word, .ref m_said, .int (-1), .int 0, .ref m_vote, .int 0, .ref m_wasSaid, .int 0, .ref m_kept, .ref m_wanted, .ref m_chosenBy, .ref m_gone, .ref m_isFit, .ref m_bishopThen, .long 0, .ref m_images, .ref m_imageForce, .ref m_imageX, .ref m_isMade])), (m_tape, .inl (mk_tape, 400, .inl g_8))]) [0, 1] (by decide) rfl
  have hKc := hK.sub (tys' := [(mk_tape, .byte)]) [0] rfl
  have hFc := va_free (wc := [(h0, .inr (12, [.ref m_tape, .int 12, .int 0, .ref m_sign, .ref m_length, .ref m_clause, .ref m_clauses, .ref m_read, .int 0, .int 0, .int 0, .int 0, .int 0, .int 0, .int 0, .ref m_open, .int 0, .ref m_stack, .int 0, .ref m_word, .ref m_said, .int (-1), .int 0, .ref m_vote, .int 0, .ref m_wasSaid, .int 0, .ref m_kept, .ref m_wanted, .ref m_chosenBy, .ref m_gone, .ref m_isFit, .ref m_bishopThen, .long 0, .ref m_images, .ref m_imageForce, .ref m_imageX, .ref m_isMade])), (m_tape, .inl (mk_tape, 400, .inl g_8))]) hD hS hA [0, 1] rfl
  refine va_callv (va_runV (As := [.int a3]) (rest := []) ⟨hx, hb, hml, hown, hts⟩ (m_four_12 l dC dI h0 m_tape m_sign m_length m_clause m_clauses m_read m_open m_stack m_word m_said m_vote m_wasSaid m_kept m_wanted m_chosenBy m_gone m_isFit m_bishopThen m_images m_imageForce m_imageX m_isMade mk_tape g_8 a3  H.size) (cwV 1 hts (gUV tw_1244 tw_1246 ts_3_0 tw_13 tw_1247) rfl rfl rfl (by decide +kernel) ⟨(Nat.le_of_ble_eq_true rfl), (Nat.le_of_ble_eq_true rfl)⟩) ⟨cPre.blind, va_recv hKc hPc (ci := 12) (q0 := 0) rfl rfl, cPre.use hPc hKc hDc hE⟩ rfl rfl hl.1 rfl (lv_room (Nat.le_of_ble_eq_true rfl)) dX12_feed_33 ⟨(Nat.le_of_ble_eq_true rfl), (Nat.le_of_ble_eq_true rfl)⟩) hS (fun q _ h => hFc q h) hFc (fun u t H1 locs ht hvm hw hB hz1 hk1 hS => ?_)
  obtain ⟨g_10, hP1, hK1, hD1⟩ := hB
  rw [ht] at hP1
  obtain ⟨hP, hD⟩ := va_join (wr := []) (w1 := [(h0, .inr (12, [.ref m_tape, .int 16, .int 0, .ref m_sign, .ref m_length, .ref m_clause, .ref m_clauses, .ref m_read, .int 0, .int 0, .int 0, .int 0, .int 0, .int 0, .int 0, .ref m_open, .int 0, .ref m_stack, .int 0, .ref m_word, .ref m_said, .int (-1), .int 0, .ref m_vote, .int 0, .ref m_wasSaid, .int 0, .ref m_kept, .ref m_wanted, .ref m_chosenBy, .ref m_gone, .ref m_isFit, .ref m_bishopThen, .long 0, .ref m_images, .ref m_imageForce, .ref m_imageX, .ref m_isMade])), (m_tape, .inl (mk_tape, 400, .inl g_10))]) hP hD [0, 1] [] rfl rfl (by decide) (by decide) hk1 hFc hP1 hD1
  generalize H1 = H at hP hS ⊢
  have hP : va_P (dC, dI) vwCl [(h0, .inr (12, [.ref m_tape, .int 16, .int 0, .ref m_sign, .ref m_length, .ref m_clause, .ref m_clauses, .ref m_read, .int 0, .int 0, .int 0, .int 0, .int 0, .int 0, .int 0, .ref m_open, .int 0, .ref m_stack, .int 0, .ref m_word, .ref m_said, .int (-1), .int 0, .ref m_vote, .int 0, .ref m_wasSaid, .int 0, .ref m_kept, .ref m_wanted, .ref m_chosenBy, .ref m_gone, .ref m_isFit, .ref m_bishopThen, .long 0, .ref m_images, .ref m_imageForce, .ref m_imageX, .ref m_isMade])), (m_tape, .inl (mk_tape, 400, .inl g_10))] H := hP
  have hD : va_D A [(h0, .inr (12, [.ref m_tape, .int 16, .int 0, .ref m_sign, .ref m_length, .ref m_clause, .ref m_clauses, .ref m_read, .int 0, .int 0, .int 0, .int 0, .int 0, .int 0, .int 0, .ref m_open, .int 0, .ref m_stack, .int 0, .ref m_word, .ref m_said, .int (-1), .int 0, .ref m_vote, .int 0, .ref m_wasSaid, .int 0, .ref m_kept, .ref m_wanted, .ref m_chosenBy, .ref m_gone, .ref m_isFit, .ref m_bishopThen, .long 0, .ref m_images, .ref m_imageForce, .ref m_imageX, .ref m_isMade])), (m_tape, .inl (mk_tape, 400, .inl g_10))] := hD
  refine lv_aload_n hx hb dX12_feed_36 rfl (lv_at hl 0 rfl) ?_
  refine lv_iload hx hb dX12_feed_37 (lv_at hl 5 rfl) ?_
  have hPc := hP.sub (ws' := [(h0, .inr (12, [.ref m_tape, .int 16, .int 0, .ref m_sign, .ref m_length, .ref m_clause, .ref m_clauses, .ref m_read, .int 0, .int 0, .int 0, .int 0, .int 0, .int 0, .int 0, .ref m_open, .int 0, .ref m_stack, .int 0, .ref m_word, .ref m_said, .int (-1), .int 0, .ref m_vote, .int 0, .ref m_wasSaid, .int 0, .ref m_kept, .ref m_wanted, .ref m_chosenBy, .ref m_gone, .ref m_isFit, .ref m_bishopThen, .long 0, .ref m_images, .ref m_imageForce, .ref m_imageX, .ref m_isMade])), (m_tape, .inl (mk_tape, 400, .inl g_10))]) [0, 1] rfl
  have hDc := hD.sub (ws' := [(h0, .inr (12, [.ref m_tape, .int 16, .int 0, .ref m_sign, .ref m_length, .ref m_clause, .ref m_clauses, .ref m_read, .int 0, .int 0, .int 0, .int 0, .int 0, .int 0, .int 0, .ref m_open, .int 0, .ref m_stack, .int 0, .ref m_word, .ref m_said, .int (-1), .int 0, .ref m_vote, .int 0, .ref m_wasSaid, .int 0, .ref m_kept, .ref m_wanted, .ref m_chosenBy, .ref m_gone, .ref m_isFit, .ref m_bishopThen, .long 0, .ref m_images, .ref m_imageForce, .ref m_imageX, .ref m_isMade])), (m_tape, .inl (mk_tape, 400, .inl g_10))]) [0, 1] (by decide) rfl
  have hKc := hK.sub (tys' := [(mk_tape, .byte)]) [0] rfl
  have hFc := va_free (wc := [(h0, .inr (12, [.ref m_tape, .int 16, .int 0, .ref m_sign, .ref m_length, .ref m_clause, .ref m_clauses, .ref m_read, .int 0, .int 0, .int 0, .int 0, .int 0, .int 0, .int 0, .ref m_open, .int 0, .ref m_stack, .int 0, .ref m_word, .ref m_said, .int (-1), .int 0, .ref m_vote, .int 0, .ref m_wasSaid, .int 0, .ref m_kept, .ref m_wanted, .ref m_chosenBy, .ref m_gone, .ref m_isFit, .ref m_bishopThen, .long 0, .ref m_images, .ref m_imageForce, .ref m_imageX, .ref m_isMade])), (m_tape, .inl (mk_tape, 400, .inl g_10))]) hD hS hA [0, 1] rfl
  refine va_callv (va_runV (As := [.int a4]) (rest := []) ⟨hx, hb, hml, hown, hts⟩ (m_four_16 l dC dI h0 m_tape m_sign m_length m_clause m_clauses m_read m_open m_stack m_word m_said m_vote m_wasSaid m_kept m_wanted m_chosenBy m_gone m_isFit m_bishopThen m_images m_imageForce m_imageX m_isMade mk_tape g_10 a4  H.size) (cwV 1 hts (gUV tw_1244 tw_1246 ts_3_0 tw_13 tw_1247) rfl rfl rfl (by decide +kernel) ⟨(Nat.le_of_ble_eq_true rfl), (Nat.le_of_ble_eq_true rfl)⟩) ⟨cPre.blind, va_recv hKc hPc (ci := 12) (q0 := 0) rfl rfl, cPre.use hPc hKc hDc hE⟩ rfl rfl hl.1 rfl (lv_room (Nat.le_of_ble_eq_true rfl)) dX12_feed_39 ⟨(Nat.le_of_ble_eq_true rfl), (Nat.le_of_ble_eq_true rfl)⟩) hS (fun q _ h => hFc q h) hFc (fun u t H1 locs ht hvm hw hB hz1 hk1 hS => ?_)
  obtain ⟨g_12, hP1, hK1, hD1⟩ := hB
  rw [ht] at hP1
  obtain ⟨hP, hD⟩ := va_join (wr := []) (w1 := [(h0, .inr (12, [.ref m_tape, .int 20, .int 0, .ref m_sign, .ref m_length, .ref m_clause, .ref m_clauses, .ref m_read, .int 0, .int 0, .int 0, .int 0, .int 0, .int 0, .int 0, .ref m_open, .int 0, .ref m_stack, .int 0, .ref m_word, .ref m_said, .int (-1), .int 0, .ref m_vote, .int 0, .ref m_wasSaid, .int 0, .ref m_kept, .ref m_wanted, .ref m_chosenBy, .ref m_gone, .ref m_isFit, .ref m_bishopThen, .long 0, .ref m_images, .ref m_imageForce, .ref m_imageX, .ref m_isMade])), (m_tape, .inl (mk_tape, 400, .inl g_12))]) hP hD [0, 1] [] rfl rfl (by decide) (by decide) hk1 hFc hP1 hD1
  generalize H1 = H at hP hS ⊢
  have hP : va_P (dC, dI) vwCl [(h0, .inr (12, [.ref m_tape, .int 20, .int 0, .ref m_sign, .ref m_length, .ref m_clause, .ref m_clauses, .ref m_read, .int 0, .int 0, .int 0, .int 0, .int 0, .int 0, .int 0, .ref m_open, .int 0, .ref m_stack, .int 0, .ref m_word, .ref m_said, .int (-1), .int 0, .ref m_vote, .int 0, .ref m_wasSaid, .int 0, .ref m_kept, .ref m_wanted, .ref m_chosenBy, .ref m_gone, .ref m_isFit, .ref m_bishopThen, .long 0, .ref m_images, .ref m_imageForce, .ref m_imageX, .ref m_isMade])), (m_tape, .inl (mk_tape, 400, .inl g_12))] H := hP
  have hD : va_D A [(h0, .inr (12, [.ref m_tape, .int 20, .int 0, .ref m_sign, .ref m_length, .ref m_clause, .ref m_clauses, .ref m_read, .int 0, .int 0, .int 0, .int 0, .int 0, .int 0, .int 0, .ref m_open, .int 0, .ref m_stack, .int 0, .ref m_word, .ref m_said, .int (-1), .int 0, .ref m_vote, .int 0, .ref m_wasSaid, .int 0, .ref m_kept, .ref m_wanted, .ref m_chosenBy, .ref m_gone, .ref m_isFit, .ref m_bishopThen, .long 0, .ref m_images, .ref m_imageForce, .ref m_imageX, .ref m_isMade])), (m_tape, .inl (mk_tape, 400, .inl g_12))] := hD
  refine lv_aload_n hx hb dX12_feed_42 rfl (lv_at hl 0 rfl) ?_
  refine va_get (D := (dC, dI)) (ci := 12) (v := .int 20) (C := RX12) (T := TX12) (N := 38) hx hb hts iX12 hown hK hP 0 rfl rfl 1 (by decide) (hts _ tw_1126) (fun _ h9 => h9) rfl dX12_feed_43 ?_
  refine W.widen (k := 0) (n := 0) (Nat.le_of_ble_eq_true rfl) (Nat.le_of_ble_eq_true rfl) ?_
  exact W.iret (v := 20) hx hb hr (fun t ht hW => ⟨⟨20, (), rfl, rfl, trivial⟩, hS.F ht⟩) hS.2.2 dX12_feed_46
