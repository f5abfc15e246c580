theorem tw_37 : (Jvm.Cond.fieldLink "BoyBishop$Tape" (15 : Nat) "BoyBishop$Tape" "length" "I") ∈ gT := gT_in (List.mem_append_right _ (List.mem_append_left _ (List.mem_of_getElem? (i := 37) rfl))) rfl
theorem tw_464 : (Jvm.Cond.methodLink "BoyBishop" (96 : Nat) ({ cls := "BoyBishop$Tape", name := "hasRoom", desc := "(I)Z" } : Jvm.MethodName)) ∈ gT := gT_in (List.mem_append_right _ (List.mem_append_right _ (List.mem_append_left _ (List.mem_of_getElem? (i := 224) rfl)))) rfl
theorem tw_465 : (Jvm.Cond.instanceMethod ({ cls := "BoyBishop$Tape", name := "hasRoom", desc := "(I)Z" } : Jvm.MethodName)) ∈ gT := gT_in (List.mem_append_right _ (List.mem_append_right _ (List.mem_append_left _ (List.mem_of_getElem? (i := 225) rfl)))) rfl
theorem tw_466 : (Jvm.Cond.selects "BoyBishop$Tape" ({ cls := "BoyBishop$Tape", name := "hasRoom", desc := "(I)Z" } : Jvm.MethodName) ({ cls := "BoyBishop$Tape", name := "hasRoom", desc := "(I)Z" } : Jvm.MethodName)) ∈ gT := gT_in (List.mem_append_right _ (List.mem_append_right _ (List.mem_append_left _ (List.mem_of_getElem? (i := 226) rfl)))) rfl
theorem tw_467 : (Jvm.Cond.code ({ cls := "BoyBishop$Tape", name := "hasRoom", desc := "(I)Z" } : Jvm.MethodName) prog_11_method_2_code (2 : Nat) (Option.some Jvm.ClassFile.FieldType.boolean)) ∈ gT := gT_in (List.mem_append_right _ (List.mem_append_right _ (List.mem_append_left _ (List.mem_of_getElem? (i := 227) rfl)))) rfl
theorem tw_468 : (Jvm.Cond.methodLink "BoyBishop" (100 : Nat) ({ cls := "BoyBishop$Tape", name := "add", desc := "(I)V" } : Jvm.MethodName)) ∈ gT := gT_in (List.mem_append_right _ (List.mem_append_right _ (List.mem_append_left _ (List.mem_of_getElem? (i := 228) rfl)))) rfl
theorem tw_469 : (Jvm.Cond.instanceMethod ({ cls := "BoyBishop$Tape", name := "add", desc := "(I)V" } : Jvm.MethodName)) ∈ gT := gT_in (List.mem_append_right _ (List.mem_append_right _ (List.mem_append_left _ (List.mem_of_getElem? (i := 229) rfl)))) rfl
theorem tw_470 : (Jvm.Cond.selects "BoyBishop$Tape" ({ cls := "BoyBishop$Tape", name := "add", desc := "(I)V" } : Jvm.MethodName) ({ cls := "BoyBishop$Tape", name := "add", desc := "(I)V" } : Jvm.MethodName)) ∈ gT := gT_in (List.mem_append_right _ (List.mem_append_right _ (List.mem_append_left _ (List.mem_of_getElem? (i := 230) rfl)))) rfl
theorem tw_471 : (Jvm.Cond.code ({ cls := "BoyBishop$Tape", name := "add", desc := "(I)V" } : Jvm.MethodName) prog_11_method_3_code (3 : Nat) (Option.none : Option Jvm.ClassFile.FieldType)) ∈ gT := gT_in (List.mem_append_right _ (List.mem_append_right _ (List.mem_append_left _ (List.mem_of_getElem? (i := 231) rfl)))) rfl
theorem dX11_feed_0 : decode cX11_feed 0 = .ok (.aload_n 0, 1) := by decide +kernel
theorem dX11_feed_1 : decode cX11_feed 1 = .ok (.getfield 10, 3) := by decide +kernel
theorem dX11_feed_4 : decode cX11_feed 4 = .ok (.bipush 20, 2) := by decide +kernel
theorem dX11_feed_6 : decode cX11_feed 6 = .ok (.invokevirtual 96, 3) := by decide +kernel
theorem dX11_feed_9 : decode cX11_feed 9 = .ok (.ifCond .ne 5, 3) := by decide +kernel
theorem dX11_feed_14 : decode cX11_feed 14 = .ok (.aload_n 0, 1) := by decide +kernel
theorem dX11_feed_15 : decode cX11_feed 15 = .ok (.getfield 10, 3) := by decide +kernel
theorem dX11_feed_18 : decode cX11_feed 18 = .ok (.iload_n 1, 1) := by decide +kernel
theorem dX11_feed_19 : decode cX11_feed 19 = .ok (.invokevirtual 100, 3) := by decide +kernel
theorem dX11_feed_22 : decode cX11_feed 22 = .ok (.aload_n 0, 1) := by decide +kernel
theorem dX11_feed_23 : decode cX11_feed 23 = .ok (.getfield 10, 3) := by decide +kernel
theorem dX11_feed_26 : decode cX11_feed 26 = .ok (.iload_n 2, 1) := by decide +kernel
theorem dX11_feed_27 : decode cX11_feed 27 = .ok (.invokevirtual 100, 3) := by decide +kernel
theorem dX11_feed_30 : decode cX11_feed 30 = .ok (.aload_n 0, 1) := by decide +kernel
theorem dX11_feed_31 : decode cX11_feed 31 = .ok (.getfield 10, 3) := by decide +kernel
theorem dX11_feed_34 : decode cX11_feed 34 = .ok (.iload_n 3, 1) := by decide +kernel
theorem dX11_feed_35 : decode cX11_feed 35 = .ok (.invokevirtual 100, 3) := by decide +kernel
theorem dX11_feed_38 : decode cX11_feed 38 = .ok (.aload_n 0, 1) := by decide +kernel
theorem dX11_feed_39 : decode cX11_feed 39 = .ok (.getfield 10, 3) := by decide +kernel
theorem dX11_feed_42 : decode cX11_feed 42 = .ok (.iload 4, 2) := by decide +kernel
theorem dX11_feed_44 : decode cX11_feed 44 = .ok (.invokevirtual 100, 3) := by decide +kernel
theorem dX11_feed_47 : decode cX11_feed 47 = .ok (.aload_n 0, 1) := by decide +kernel
theorem dX11_feed_48 : decode cX11_feed 48 = .ok (.getfield 10, 3) := by decide +kernel
theorem dX11_feed_51 : decode cX11_feed 51 = .ok (.iload 5, 2) := by decide +kernel
theorem dX11_feed_53 : decode cX11_feed 53 = .ok (.invokevirtual 100, 3) := by decide +kernel
theorem dX11_feed_56 : decode cX11_feed 56 = .ok (.aload_n 0, 1) := by decide +kernel
theorem dX11_feed_57 : decode cX11_feed 57 = .ok (.getfield 10, 3) := by decide +kernel
theorem dX11_feed_60 : decode cX11_feed 60 = .ok (.getfield 104, 3) := by decide +kernel
theorem dX11_feed_63 : decode cX11_feed 63 = .ok (.ireturn, 1) := by decide +kernel
theorem dX9_add_0 : decode cX9_add 0 = .ok (.bipush 24, 2) := by decide +kernel
theorem dX9_add_2 : decode cX9_add 2 = .ok (.istore_n 2, 1) := by decide +kernel
theorem dX9_add_3 : decode cX9_add 3 = .ok (.iload_n 2, 1) := by decide +kernel
theorem dX9_add_4 : decode cX9_add 4 = .ok (.ifCond .lt 42, 3) := by decide +kernel
theorem dX9_add_7 : decode cX9_add 7 = .ok (.aload_n 0, 1) := by decide +kernel
theorem dX9_add_8 : decode cX9_add 8 = .ok (.getfield 15, 3) := by decide +kernel
theorem dX9_add_11 : decode cX9_add 11 = .ok (.sipush 400, 3) := by decide +kernel
theorem dX9_add_14 : decode cX9_add 14 = .ok (.if_icmp .ge 32, 3) := by decide +kernel
theorem dX9_add_17 : decode cX9_add 17 = .ok (.aload_n 0, 1) := by decide +kernel
theorem dX9_add_18 : decode cX9_add 18 = .ok (.getfield 11, 3) := by decide +kernel
theorem dX9_add_21 : decode cX9_add 21 = .ok (.aload_n 0, 1) := by decide +kernel
theorem dX9_add_22 : decode cX9_add 22 = .ok (.getfield 15, 3) := by decide +kernel
theorem dX9_add_25 : decode cX9_add 25 = .ok (.iload_n 1, 1) := by decide +kernel
theorem dX9_add_26 : decode cX9_add 26 = .ok (.iload_n 2, 1) := by decide +kernel
theorem dX9_add_27 : decode cX9_add 27 = .ok (.ishr, 1) := by decide +kernel
theorem dX9_add_28 : decode cX9_add 28 = .ok (.i2b, 1) := by decide +kernel
theorem dX9_add_29 : decode cX9_add 29 = .ok (.bastore, 1) := by decide +kernel
theorem dX9_add_30 : decode cX9_add 30 = .ok (.aload_n 0, 1) := by decide +kernel
theorem dX9_add_31 : decode cX9_add 31 = .ok (.dup, 1) := by decide +kernel
theorem dX9_add_32 : decode cX9_add 32 = .ok (.getfield 15, 3) := by decide +kernel
theorem dX9_add_35 : decode cX9_add 35 = .ok (.iconst 1, 1) := by decide +kernel
theorem dX9_add_36 : decode cX9_add 36 = .ok (.iadd, 1) := by decide +kernel
theorem dX9_add_37 : decode cX9_add 37 = .ok (.putfield 15, 3) := by decide +kernel
theorem dX9_add_40 : decode cX9_add 40 = .ok (.iinc 2 (-8), 3) := by decide +kernel
theorem dX9_add_43 : decode cX9_add 43 = .ok (.goto (-40), 3) := by decide +kernel
theorem dX9_add_46 : decode cX9_add 46 = .ok (.return_, 1) := by decide +kernel
theorem dX9_hasRoom_0 : decode cX9_hasRoom 0 = .ok (.aload_n 0, 1) := by decide +kernel
theorem dX9_hasRoom_1 : decode cX9_hasRoom 1 = .ok (.getfield 15, 3) := by decide +kernel
theorem dX9_hasRoom_4 : decode cX9_hasRoom 4 = .ok (.iload_n 1, 1) := by decide +kernel
theorem dX9_hasRoom_5 : decode cX9_hasRoom 5 = .ok (.iadd, 1) := by decide +kernel
theorem dX9_hasRoom_6 : decode cX9_hasRoom 6 = .ok (.sipush 400, 3) := by decide +kernel
theorem dX9_hasRoom_9 : decode cX9_hasRoom 9 = .ok (.if_icmp .gt 7, 3) := by decide +kernel
theorem dX9_hasRoom_12 : decode cX9_hasRoom 12 = .ok (.iconst 1, 1) := by decide +kernel
theorem dX9_hasRoom_13 : decode cX9_hasRoom 13 = .ok (.goto 4, 3) := by decide +kernel
theorem dX9_hasRoom_17 : decode cX9_hasRoom 17 = .ok (.ireturn, 1) := by decide +kernel
set_option maxHeartbeats 4000000 in
set_option maxRecDepth 100000 in
theorem c_hasRoom (l : Launch) (dC : Nat → ClassId) (dI : Nat → Nat → Nat) (tp : Nat) (tb : Nat) (sz : Nat) : Met l yX9_hasRoom (ws_u yX9_hasRoom cX9_hasRoom 2 (some .boolean)) ({ frames := 0, cells := 0, slots := 0, locals := 0 }) (va_Pc [.ref tp, .int 20] (cPre (dC, dI) [] [(tp, .inr (9, [.ref tb, .int 0, .int 0, .int 0]))] sz)) (va_Qi (fun (r : Int32) (_ : Unit) => r = 1) (fun _ t => cPost (dC, dI) [] [(tp, .inr (9, [.ref tb, .int 0, .int 0, .int 0]))] (va_A [(tp, .inr (9, [.ref tb, .int 0, .int 0, .int 0]))] sz) t) (va_A [(tp, .inr (9, [.ref tb, .int 0, .int 0, .int 0]))] sz)) 0 0 (va_A [(tp, .inr (9, [.ref tb, .int 0, .int 0, .int 0]))] sz) := by
  refine Met.ofW (cc := cX9_hasRoom) (maxL := 2) (ret := (some .boolean)) (by decide) rfl ?_
  intro p e s m args below meth c s₁ B hml hv
  obtain ⟨rfl, hsz, hP, hK, hD0, hE⟩ := hv
  have hx := B.exec
  have hb := B.bytes
  have hr := B.returns
  have hts0 := atoms_spec (ws := ws_u yX9_hasRoom cX9_hasRoom 2 (some .boolean)) B.pre
  have hts : ∀ w ∈ gT, w.before _ s = true := fun w h => hts0 w (List.mem_cons_of_mem _ h)
  have hown : s.vm.findClass RX9 = some m.cls := findClass_of_methodNamed B.named
  have hlocks := B.notSynchronized
  subst hsz
  have hD := hD0.self (sz := s.heap.size)
  generalize hAe : va_A [(tp, .inr (9, [.ref tb, .int 0, .int 0, .int 0]))] s.heap.size = A at hD ⊢
  have hA : ∀ q : Nat, s.heap.size ≤ q → A q := fun q h => by rw [← hAe]; exact Or.inr h
  have hS : va_S A s.heap s.heap [] := va_S.rf
  have hl := lv_entry ([.ref tp, .int 20]) (n := 2) (Nat.le_of_ble_eq_true rfl)
  rw [lg_entry_eq]
  generalize (lg_sl ([.ref tp, .int 20]) ++ List.replicate (2 - (lg_sl ([.ref tp, .int 20])).length) Slot.unset).toArray = ls at hl ⊢
  have hl : lv_has ls 2 [(0, .ref tp), (1, .int 20)] := hl
  have hP : va_P (dC, dI) vwCl [(tp, .inr (9, [.ref tb, .int 0, .int 0, .int 0]))] s.heap := hP
  try clear hAe
  refine lv_aload_n hx hb dX9_hasRoom_0 rfl (lv_at hl 0 rfl) ?_
  refine va_get (D := (dC, dI)) (ci := 9) (v := .int 0) (C := RX9) (T := TX9) (N := 4) hx hb hts iX9 hown hK hP 0 rfl rfl 1 (by decide) (hts _ tw_37) (fun _ h9 => h9) rfl dX9_hasRoom_1 ?_
  refine lv_iload_n hx hb dX9_hasRoom_4 rfl (lv_at hl 1 rfl) ?_
  refine lv_iadd hx hb dX9_hasRoom_5 ?_
  refine lv_topi (fun x_1 ex_1 => ?_)
  obtain rfl : x_1 = 20 := ex_1.trans (by decide)
  refine lv_sipush (v := 400) hx hb dX9_hasRoom_6 (by decide) ?_
  refine lv_icmp_gt (tgt := 16) hx hb dX9_hasRoom_9 (by decide) (fun c_2 => absurd c_2 (by decide)) (fun c_2 => ?_)
  refine lv_iconst (v := 1) hx hb dX9_hasRoom_12 (by decide) ?_
  refine lv_goto (tgt := 17) hx hb dX9_hasRoom_13 (by decide) ?_
  have hP9 := hP.sub (ws' := [(tp, .inr (9, [.ref tb, .int 0, .int 0, .int 0]))]) [0] rfl
  have hD9 := hD.sub (ws' := [(tp, .inr (9, [.ref tb, .int 0, .int 0, .int 0]))]) [0] (by decide) rfl
  have hK9 := hK.sub (tys' := []) [] rfl
  refine W.widen (k := 0) (n := 0) (Nat.le_of_ble_eq_true rfl) (Nat.le_of_ble_eq_true rfl) ?_
  exact W.zret (v := 1) hx hb hr rfl (fun t ht hW => ⟨⟨1, (), rfl, rfl, ⟨by rw [ht]; exact hP9, va_K.moved hW.alike hK9, hD9⟩⟩, hS.F ht⟩) hS.2.2 dX9_hasRoom_17
set_option maxHeartbeats 4000000 in
set_option maxRecDepth 100000 in
theorem c_add_0 (l : Launch) (dC : Nat → ClassId) (dI : Nat → Nat → Nat) (tp : Nat) (tb : Nat) (tbk : ClassId) (f : Nat → Int32) (a0 : Int32) (sz : Nat) : Met l yX9_add (ws_u yX9_add cX9_add 3 none) ({ frames := 0, cells := 0, slots := 0, locals := 0 }) (va_Pc [.ref tp, .int a0] (cPre (dC, dI) [(tbk, .byte)] [(tp, .inr (9, [.ref tb, .int 0, .int 0, .int 0])), (tb, .inl (tbk, 400, .inl f))] sz)) (va_Qv (fun _ : Unit => True) (fun _ t => ∃ (g : Nat → Int32), cPost (dC, dI) [(tbk, .byte)] [(tp, .inr (9, [.ref tb, .int 4, .int 0, .int 0])), (tb, .inl (tbk, 400, .inl g))] (va_A [(tp, .inr (9, [.ref tb, .int 0, .int 0, .int 0])), (tb, .inl (tbk, 400, .inl f))] sz) t) (va_A [(tp, .inr (9, [.ref tb, .int 0, .int 0, .int 0])), (tb, .inl (tbk, 400, .inl f))] sz)) 0 0 (va_A [(tp, .inr (9, [.ref tb, .int 0, .int 0, .int 0])), (tb, .inl (tbk, 400, .inl f))] sz) := by
  refine Met.ofW (cc := cX9_add) (maxL := 3) (ret := none) (by decide) rfl ?_
  intro p e s m args below meth c s₁ B hml hv
  obtain ⟨rfl, hsz, hP, hK, hD0, hE⟩ := hv
  have hx := B.exec
  have hb := B.bytes
  have hr := B.returns
  have hts0 := atoms_spec (ws := ws_u yX9_add cX9_add 3 none) B.pre
  have hts : ∀ w ∈ gT, w.before _ s = true := fun w h => hts0 w (List.mem_cons_of_mem _ h)
  have hown : s.vm.findClass RX9 = some m.cls := findClass_of_methodNamed B.named
  have hlocks := B.notSynchronized
  subst hsz
  have hD := hD0.self (sz := s.heap.size)
  generalize hAe : va_A [(tp, .inr (9, [.ref tb, .int 0, .int 0, .int 0])), (tb, .inl (tbk, 400, .inl f))] s.heap.size = A at hD ⊢
  have hA : ∀ q : Nat, s.heap.size ≤ q → A q := fun q h => by rw [← hAe]; exact Or.inr h
  have hS : va_S A s.heap s.heap [] := va_S.rf
  have hl := lv_entry ([.ref tp, .int a0]) (n := 3) (Nat.le_of_ble_eq_true rfl)
  rw [lg_entry_eq]
  generalize (lg_sl ([.ref tp, .int a0]) ++ List.replicate (3 - (lg_sl ([.ref tp, .int a0])).length) Slot.unset).toArray = ls at hl ⊢
  have hl : lv_has ls 3 [(0, .ref tp), (1, .int a0)] := hl
  have hP : va_P (dC, dI) vwCl [(tp, .inr (9, [.ref tb, .int 0, .int 0, .int 0])), (tb, .inl (tbk, 400, .inl f))] s.heap := hP
  try clear hAe
  refine lv_bipush (v := 24) hx hb dX9_add_0 (by decide) ?_
  refine lv_istore_n (lv' := [(2, .int 24), (0, .ref tp), (1, .int a0)]) hx hb dX9_add_2 rfl hl (by decide) rfl (fun ls hl => ?_)
  refine lv_iload_n hx hb dX9_add_3 rfl (lv_at hl 0 rfl) ?_
  refine lv_if_lt (tgt := 46) hx hb dX9_add_4 (by decide) (fun c_1 => absurd c_1 (by decide)) (fun c_1 => ?_)
  refine lv_aload_n hx hb dX9_add_7 rfl (lv_at hl 1 rfl) ?_
  refine va_get (D := (dC, dI)) (ci := 9) (v := .int 0) (C := RX9) (T := TX9) (N := 4) hx hb hts iX9 hown hK hP 0 rfl rfl 1 (by decide) (hts _ tw_37) (fun _ h9 => h9) rfl dX9_add_8 ?_
  refine lv_sipush (v := 400) hx hb dX9_add_11 (by decide) ?_
  refine lv_icmp_ge (tgt := 46) hx hb dX9_add_14 (by decide) (fun c_2 => absurd c_2 (by decide)) (fun c_2 => ?_)
  refine lv_aload_n hx hb dX9_add_17 rfl (lv_at hl 1 rfl) ?_
  refine va_get (D := (dC, dI)) (ci := 9) (v := .ref tb) (C := RX9) (T := TX9) (N := 4) hx hb hts iX9 hown hK hP 0 rfl rfl 0 (by decide) (hts _ tw_36) (fun _ h9 => h9) rfl dX9_add_18 ?_
  refine lv_aload_n hx hb dX9_add_21 rfl (lv_at hl 1 rfl) ?_
  refine va_get (D := (dC, dI)) (ci := 9) (v := .int 0) (C := RX9) (T := TX9) (N := 4) hx hb hts iX9 hown hK hP 0 rfl rfl 1 (by decide) (hts _ tw_37) (fun _ h9 => h9) rfl dX9_add_22 ?_
  refine lv_iload_n hx hb dX9_add_25 rfl (lv_at hl 2 rfl) ?_
  refine lv_iload_n hx hb dX9_add_26 rfl (lv_at hl 0 rfl) ?_
  refine lv_ishr hx hb dX9_add_27 ?_
  refine lv_topi (fun x_3 ex_3 => ?_)
  obtain ⟨x_4, ex_4⟩ : ∃ y : Int32, x_3.toInt8.toInt32 = y := ⟨_, rfl⟩
  refine lv_i2b (v := x_4) hx hb dX9_add_28 ex_4 ?_
  refine va_bast hx hb hK hP hD hS 1 0 rfl rfl (show vp_in 0 400 from (by decide : ¬ ((0 : Int32) < 0 ∨ 400 ≤ (0 : Int32).toNatClampNeg))) dX9_add_29 (fun H locs hP hD hS => ?_)
  have hP : va_P (dC, dI) vwCl [(tp, .inr (9, [.ref tb, .int 0, .int 0, .int 0])), (tb, .inl (tbk, 400, .inl (upd f (Int32.toNatClampNeg 0) (vp_nar .byte x_4))))] H := hP
  have hD : va_D A [(tp, .inr (9, [.ref tb, .int 0, .int 0, .int 0])), (tb, .inl (tbk, 400, .inl (upd f (Int32.toNatClampNeg 0) (vp_nar .byte x_4))))] := hD
  generalize upd f (Int32.toNatClampNeg 0) (vp_nar .byte x_4) = f_5 at hP hD
  refine lv_aload_n hx hb dX9_add_30 rfl (lv_at hl 1 rfl) ?_
  refine lv_dup hx hb dX9_add_31 rfl ?_
  refine va_get (D := (dC, dI)) (ci := 9) (v := .int 0) (C := RX9) (T := TX9) (N := 4) hx hb hts iX9 hown hK hP 0 rfl rfl 1 (by decide) (hts _ tw_37) (fun _ h9 => h9) rfl dX9_add_32 ?_
  refine lv_iconst (v := 1) hx hb dX9_add_35 (by decide) ?_
  refine lv_iadd hx hb dX9_add_36 ?_
  refine lv_topi (fun x_6 ex_6 => ?_)
  obtain rfl : x_6 = 1 := ex_6.trans (by decide)
  refine va_put (D := (dC, dI)) (ci := 9) (v := .int 1) (C := RX9) (T := TX9) (N := 4) hx hb hts iX9 tyX9 tyX9_ok nmX9 hown hK hP hD hS 0 rfl rfl 1 (by decide) (hts _ tw_37) (fun _ h9 => h9) rfl (tyX9_ok 1 (by decide)) rfl rfl (Nat.le_of_ble_eq_true rfl) dX9_add_37 (fun H locs hP hD hS => ?_)
  have hP : va_P (dC, dI) vwCl [(tp, .inr (9, [.ref tb, .int 1, .int 0, .int 0])), (tb, .inl (tbk, 400, .inl f_5))] H := hP
  have hD : va_D A [(tp, .inr (9, [.ref tb, .int 1, .int 0, .int 0])), (tb, .inl (tbk, 400, .inl f_5))] := hD
  refine lv_iinc (v := 16) (lv' := [(2, .int 16), (0, .ref tp), (1, .int a0)]) hx hb dX9_add_40 hl (k := 0) rfl (by decide) (by decide) rfl (fun ls hl => ?_)
  refine lv_goto (tgt := 3) hx hb dX9_add_43 (by decide) ?_
  refine lv_iload_n hx hb dX9_add_3 rfl (lv_at hl 0 rfl) ?_
  refine lv_if_lt (tgt := 46) hx hb dX9_add_4 (by decide) (fun c_7 => absurd c_7 (by decide)) (fun c_7 => ?_)
  refine lv_aload_n hx hb dX9_add_7 rfl (lv_at hl 1 rfl) ?_
  refine va_get (D := (dC, dI)) (ci := 9) (v := .int 1) (C := RX9) (T := TX9) (N := 4) hx hb hts iX9 hown hK hP 0 rfl rfl 1 (by decide) (hts _ tw_37) (fun _ h9 => h9) rfl dX9_add_8 ?_
  refine lv_sipush (v := 400) hx hb dX9_add_11 (by decide) ?_
  refine lv_icmp_ge (tgt := 46) hx hb dX9_add_14 (by decide) (fun c_8 => absurd c_8 (by decide)) (fun c_8 => ?_)
  refine lv_aload_n hx hb dX9_add_17 rfl (lv_at hl 1 rfl) ?_
  refine va_get (D := (dC, dI)) (ci := 9) (v := .ref tb) (C := RX9) (T := TX9) (N := 4) hx hb hts iX9 hown hK hP 0 rfl rfl 0 (by decide) (hts _ tw_36) (fun _ h9 => h9) rfl dX9_add_18 ?_
  refine lv_aload_n hx hb dX9_add_21 rfl (lv_at hl 1 rfl) ?_
  refine va_get (D := (dC, dI)) (ci := 9) (v := .int 1) (C := RX9) (T := TX9) (N := 4) hx hb hts iX9 hown hK hP 0 rfl rfl 1 (by decide) (hts _ tw_37) (fun _ h9 => h9) rfl dX9_add_22 ?_
  refine lv_iload_n hx hb dX9_add_25 rfl (lv_at hl 2 rfl) ?_
  refine lv_iload_n hx hb dX9_add_26 rfl (lv_at hl 0 rfl) ?_
  refine lv_ishr hx hb dX9_add_27 ?_
  refine lv_topi (fun x_9 ex_9 => ?_)
  obtain ⟨x_10, ex_10⟩ : ∃ y : Int32, x_9.toInt8.toInt32 = y := ⟨_, rfl⟩
  refine lv_i2b (v := x_10) hx hb dX9_add_28 ex_10 ?_
  refine va_bast hx hb hK hP hD hS 1 0 rfl rfl (show vp_in 1 400 from (by decide : ¬ ((1 : Int32) < 0 ∨ 400 ≤ (1 : Int32).toNatClampNeg))) dX9_add_29 (fun H locs hP hD hS => ?_)
  have hP : va_P (dC, dI) vwCl [(tp, .inr (9, [.ref tb, .int 1, .int 0, .int 0])), (tb, .inl (tbk, 400, .inl (upd f_5 (Int32.toNatClampNeg 1) (vp_nar .byte x_10))))] H := hP
  have hD : va_D A [(tp, .inr (9, [.ref tb, .int 1, .int 0, .int 0])), (tb, .inl (tbk, 400, .inl (upd f_5 (Int32.toNatClampNeg 1) (vp_nar .byte x_10))))] := hD
  generalize upd f_5 (Int32.toNatClampNeg 1) (vp_nar .byte x_10) = f_11 at hP hD
  refine lv_aload_n hx hb dX9_add_30 rfl (lv_at hl 1 rfl) ?_
  refine lv_dup hx hb dX9_add_31 rfl ?_
  refine va_get (D := (dC, dI)) (ci := 9) (v := .int 1) (C := RX9) (T := TX9) (N := 4) hx hb hts iX9 hown hK hP 0 rfl rfl 1 (by decide) (hts _ tw_37) (fun _ h9 => h9) rfl dX9_add_32 ?_
  refine lv_iconst (v := 1) hx hb dX9_add_35 (by decide) ?_
  refine lv_iadd hx hb dX9_add_36 ?_
  refine lv_topi (fun x_12 ex_12 => ?_)
  obtain rfl : x_12 = 2 := ex_12.trans (by decide)
  refine va_put (D := (dC, dI)) (ci := 9) (v := .int 2) (C := RX9) (T := TX9) (N := 4) hx hb hts iX9 tyX9 tyX9_ok nmX9 hown hK hP hD hS 0 rfl rfl 1 (by decide) (hts _ tw_37) (fun _ h9 => h9) rfl (tyX9_ok 1 (by decide)) rfl rfl (Nat.le_of_ble_eq_true rfl) dX9_add_37 (fun H locs hP hD hS => ?_)
  have hP : va_P (dC, dI) vwCl [(tp, .inr (9, [.ref tb, .int 2, .int 0, .int 0])), (tb, .inl (tbk, 400, .inl f_11))] H := hP
  have hD : va_D A [(tp, .inr (9, [.ref tb, .int 2, .int 0, .int 0])), (tb, .inl (tbk, 400, .inl f_11))] := hD
  refine lv_iinc (v := 8) (lv' := [(2, .int 8), (0, .ref tp), (1, .int a0)]) hx hb dX9_add_40 hl (k := 0) rfl (by decide) (by decide) rfl (fun ls hl => ?_)
  refine lv_goto (tgt := 3) hx hb dX9_add_43 (by decide) ?_
  refine lv_iload_n hx hb dX9_add_3 rfl (lv_at hl 0 rfl) ?_
  refine lv_if_lt (tgt := 46) hx hb dX9_add_4 (by decide) (fun c_13 => absurd c_13 (by decide)) (fun c_13 => ?_)
  refine lv_aload_n hx hb dX9_add_7 rfl (lv_at hl 1 rfl) ?_
  refine va_get (D := (dC, dI)) (ci := 9) (v := .int 2) (C := RX9) (T := TX9) (N := 4) hx hb hts iX9 hown hK hP 0 rfl rfl 1 (by decide) (hts _ tw_37) (fun _ h9 => h9) rfl dX9_add_8 ?_
  refine lv_sipush (v := 400) hx hb dX9_add_11 (by decide) ?_
  refine lv_icmp_ge (tgt := 46) hx hb dX9_add_14 (by decide) (fun c_14 => absurd c_14 (by decide)) (fun c_14 => ?_)
  refine lv_aload_n hx hb dX9_add_17 rfl (lv_at hl 1 rfl) ?_
  refine va_get (D := (dC, dI)) (ci := 9) (v := .ref tb) (C := RX9) (T := TX9) (N := 4) hx hb hts iX9 hown hK hP 0 rfl rfl 0 (by decide) (hts _ tw_36) (fun _ h9 => h9) rfl dX9_add_18 ?_
  refine lv_aload_n hx hb dX9_add_21 rfl (lv_at hl 1 rfl) ?_
  refine va_get (D := (dC, dI)) (ci := 9) (v := .int 2) (C := RX9) (T := TX9) (N := 4) hx hb hts iX9 hown hK hP 0 rfl rfl 1 (by decide) (hts _ tw_37) (fun _ h9 => h9) rfl dX9_add_22 ?_
  refine lv_iload_n hx hb dX9_add_25 rfl (lv_at hl 2 rfl) ?_
  refine lv_iload_n hx hb dX9_add_26 rfl (lv_at hl 0 rfl) ?_
  refine lv_ishr hx hb dX9_add_27 ?_
  refine lv_topi (fun x_15 ex_15 => ?_)
  obtain ⟨x_16, ex_16⟩ : ∃ y : Int32, x_15.toInt8.toInt32 = y := ⟨_, rfl⟩
  refine lv_i2b (v := x_16) hx hb dX9_add_28 ex_16 ?_
  refine va_bast hx hb hK hP hD hS 1 0 rfl rfl (show vp_in 2 400 from (by decide : ¬ ((2 : Int32) < 0 ∨ 400 ≤ (2 : Int32).toNatClampNeg))) dX9_add_29 (fun H locs hP hD hS => ?_)
  have hP : va_P (dC, dI) vwCl [(tp, .inr (9, [.ref tb, .int 2, .int 0, .int 0])), (tb, .inl (tbk, 400, .inl (upd f_11 (Int32.toNatClampNeg 2) (vp_nar .byte x_16))))] H := hP
  have hD : va_D A [(tp, .inr (9, [.ref tb, .int 2, .int 0, .int 0])), (tb, .inl (tbk, 400, .inl (upd f_11 (Int32.toNatClampNeg 2) (vp_nar .byte x_16))))] := hD
  generalize upd f_11 (Int32.toNatClampNeg 2) (vp_nar .byte x_16) = f_17 at hP hD
  refine lv_aload_n hx hb dX9_add_30 rfl (lv_at hl 1 rfl) ?_
  refine lv_dup hx hb dX9_add_31 rfl ?_
  refine va_get (D := (dC, dI)) (ci := 9) (v := .int 2) (C := RX9) (T := TX9) (N := 4) hx hb hts iX9 hown hK hP 0 rfl rfl 1 (by decide) (hts _ tw_37) (fun _ h9 => h9) rfl dX9_add_32 ?_
  refine lv_iconst (v := 1) hx hb dX9_add_35 (by decide) ?_
  refine lv_iadd hx hb dX9_add_36 ?_
  refine lv_topi (fun x_18 ex_18 => ?_)
  obtain rfl : x_18 = 3 := ex_18.trans (by decide)
  refine va_put (D := (dC, dI)) (ci := 9) (v := .int 3) (C := RX9) (T := TX9) (N := 4) hx hb hts iX9 tyX9 tyX9_ok nmX9 hown hK hP hD hS 0 rfl rfl 1 (by decide) (hts _ tw_37) (fun _ h9 => h9) rfl (tyX9_ok 1 (by decide)) rfl rfl (Nat.le_of_ble_eq_true rfl) dX9_add_37 (fun H locs hP hD hS => ?_)
  have hP : va_P (dC, dI) vwCl [(tp, .inr (9, [.ref tb, .int 3, .int 0, .int 0])), (tb, .inl (tbk, 400, .inl f_17))] H := hP
  have hD : va_D A [(tp, .inr (9, [.ref tb, .int 3, .int 0, .int 0])), (tb, .inl (tbk, 400, .inl f_17))] := hD
  refine lv_iinc (v := 0) (lv' := [(2, .int 0), (0, .ref tp), (1, .int a0)]) hx hb dX9_add_40 hl (k := 0) rfl (by decide) (by decide) rfl (fun ls hl => ?_)
  refine lv_goto (tgt := 3) hx hb dX9_add_43 (by decide) ?_
  refine lv_iload_n hx hb dX9_add_3 rfl (lv_at hl 0 rfl) ?_
  refine lv_if_lt (tgt := 46) hx hb dX9_add_4 (by decide) (fun c_19 => absurd c_19 (by decide)) (fun c_19 => ?_)
  refine lv_aload_n hx hb dX9_add_7 rfl (lv_at hl 1 rfl) ?_
  refine va_get (D := (dC, dI)) (ci := 9) (v := .int 3) (C := RX9) (T := TX9) (N := 4) hx hb hts iX9 hown hK hP 0 rfl rfl 1 (by decide) (hts _ tw_37) (fun _ h9 => h9) rfl dX9_add_8 ?_
  refine lv_sipush (v := 400) hx hb dX9_add_11 (by decide) ?_
  refine lv_icmp_ge (tgt := 46) hx hb dX9_add_14 (by decide) (fun c_20 => absurd c_20 (by decide)) (fun c_20 => ?_)
  refine lv_aload_n hx hb dX9_add_17 rfl (lv_at hl 1 rfl) ?_
  refine va_get (D := (dC, dI)) (ci := 9) (v := .ref tb) (C := RX9) (T := TX9) (N := 4) hx hb hts iX9 hown hK hP 0 rfl rfl 0 (by decide) (hts _ tw_36) (fun _ h9 => h9) rfl dX9_add_18 ?_
  refine lv_aload_n hx hb dX9_add_21 rfl (lv_at hl 1 rfl) ?_
  refine va_get (D := (dC, dI)) (ci := 9) (v := .int 3) (C := RX9) (T := TX9) (N := 4) hx hb hts iX9 hown hK hP 0 rfl rfl 1 (by decide) (hts _ tw_37) (fun _ h9 => h9) rfl dX9_add_22 ?_
  refine lv_iload_n hx hb dX9_add_25 rfl (lv_at hl 2 rfl) ?_
  refine lv_iload_n hx hb dX9_add_26 rfl (lv_at hl 0 rfl) ?_
  refine lv_ishr hx hb dX9_add_27 ?_
  refine lv_topi (fun x_21 ex_21 => ?_)
  obtain ⟨x_22, ex_22⟩ : ∃ y : Int32, x_21.toInt8.toInt32 = y := ⟨_, rfl⟩
  refine lv_i2b (v := x_22) hx hb dX9_add_28 ex_22 ?_
  refine va_bast hx hb hK hP hD hS 1 0 rfl rfl (show vp_in 3 400 from (by decide : ¬ ((3 : Int32) < 0 ∨ 400 ≤ (3 : Int32).toNatClampNeg))) dX9_add_29 (fun H locs hP hD hS => ?_)
  have hP : va_P (dC, dI) vwCl [(tp, .inr (9, [.ref tb, .int 3, .int 0, .int 0])), (tb, .inl (tbk, 400, .inl (upd f_17 (Int32.toNatClampNeg 3) (vp_nar .byte x_22))))] H := hP
  have hD : va_D A [(tp, .inr (9, [.ref tb, .int 3, .int 0, .int 0])), (tb, .inl (tbk, 400, .inl (upd f_17 (Int32.toNatClampNeg 3) (vp_nar .byte x_22))))] := hD
  generalize upd f_17 (Int32.toNatClampNeg 3) (vp_nar .byte x_22) = f_23 at hP hD
  refine lv_aload_n hx hb dX9_add_30 rfl (lv_at hl 1 rfl) ?_
  refine lv_dup hx hb dX9_add_31 rfl ?_
  refine va_get (D := (dC, dI)) (ci := 9) (v := .int 3) (C := RX9) (T := TX9) (N := 4) hx hb hts iX9 hown hK hP 0 rfl rfl 1 (by decide) (hts _ tw_37) (fun _ h9 => h9) rfl dX9_add_32 ?_
  refine lv_iconst (v := 1) hx hb dX9_add_35 (by decide) ?_
  refine lv_iadd hx hb dX9_add_36 ?_
  refine lv_topi (fun x_24 ex_24 => ?_)
  obtain rfl : x_24 = 4 := ex_24.trans (by decide)
  refine va_put (D := (dC, dI)) (ci := 9) (v := .int 4) (C := RX9) (T := TX9) (N := 4) hx hb hts iX9 tyX9 tyX9_ok nmX9 hown hK hP hD hS 0 rfl rfl 1 (by decide) (hts _ tw_37) (fun _ h9 => h9) rfl (tyX9_ok 1 (by decide)) rfl rfl (Nat.le_of_ble_eq_true rfl) dX9_add_37 (fun H locs hP hD hS => ?_)
  have hP : va_P (dC, dI) vwCl [(tp, .inr (9, [.ref tb, .int 4, .int 0, .int 0])), (tb, .inl (tbk, 400, .inl f_23))] H := hP
  have hD : va_D A [(tp, .inr (9, [.ref tb, .int 4, .int 0, .int 0])), (tb, .inl (tbk, 400, .inl f_23))] := hD
  refine lv_iinc (v := (-8)) (lv' := [(2, .int (-8)), (0, .ref tp), (1, .int a0)]) hx hb dX9_add_40 hl (k := 0) rfl (by decide) (by decide) rfl (fun ls hl => ?_)
  refine lv_goto (tgt := 3) hx hb dX9_add_43 (by decide) ?_
  refine lv_iload_n hx hb dX9_add_3 rfl (lv_at hl 0 rfl) ?_
  refine lv_if_lt (tgt := 46) hx hb dX9_add_4 (by decide) (fun c_25 => ?_) (fun c_25 => absurd (by decide) c_25)
  have hP9 := hP.sub (ws' := [(tp, .inr (9, [.ref tb, .int 4, .int 0, .int 0])), (tb, .inl (tbk, 400, .inl f_23))]) [0, 1] rfl
  have hD9 := hD.sub (ws' := [(tp, .inr (9, [.ref tb, .int 4, .int 0, .int 0])), (tb, .inl (tbk, 400, .inl f_23))]) [0, 1] (by decide) rfl
  have hK9 := hK.sub (tys' := [(tbk, .byte)]) [0] rfl
  refine W.widen (k := 0) (n := 0) (Nat.le_of_ble_eq_true rfl) (Nat.le_of_ble_eq_true rfl) ?_
  exact W.vret hx hb hr (fun t ht hW => ⟨⟨(), rfl, trivial, ⟨f_23, by rw [ht]; exact hP9, va_K.moved hW.alike hK9, hD9⟩⟩, hS.F ht⟩) hS.2.2 dX9_add_46
set_option maxHeartbeats 4000000 in
set_option maxRecDepth 100000 in
theorem c_add_4 (l : Launch) (dC : Nat → ClassId) (dI : Nat → Nat → Nat) (tp : Nat) (tb : Nat) (tbk : ClassId) (f : Nat → Int32) (a0 : Int32) (sz : Nat) : Met l yX9_add (ws_u yX9_add cX9_add 3 none) ({ frames := 0, cells := 0, slots := 0, locals := 0 }) (va_Pc [.ref tp, .int a0] (cPre (dC, dI) [(tbk, .byte)] [(tp, .inr (9, [.ref tb, .int 4, .int 0, .int 0])), (tb, .inl (tbk, 400, .inl f))] sz)) (va_Qv (fun _ : Unit => True) (fun _ t => ∃ (g : Nat → Int32), cPost (dC, dI) [(tbk, .byte)] [(tp, .inr (9, [.ref tb, .int 8, .int 0, .int 0])), (tb, .inl (tbk, 400, .inl g))] (va_A [(tp, .inr (9, [.ref tb, .int 4, .int 0, .int 0])), (tb, .inl (tbk, 400, .inl f))] sz) t) (va_A [(tp, .inr (9, [.ref tb, .int 4, .int 0, .int 0])), (tb, .inl (tbk, 400, .inl f))] sz)) 0 0 (va_A [(tp, .inr (9, [.ref tb, .int 4, .int 0, .int 0])), (tb, .inl (tbk, 400, .inl f))] sz) := by
  refine Met.ofW (cc := cX9_add) (maxL := 3) (ret := none) (by decide) rfl ?_
  intro p e s m args below meth c s₁ B hml hv
  obtain ⟨rfl, hsz, hP, hK, hD0, hE⟩ := hv
  have hx := B.exec
  have hb := B.bytes
  have hr := B.returns
  have hts0 := atoms_spec (ws := ws_u yX9_add cX9_add 3 none) B.pre
  have hts : ∀ w ∈ gT, w.before _ s = true := fun w h => hts0 w (List.mem_cons_of_mem _ h)
  have hown : s.vm.findClass RX9 = some m.cls := findClass_of_methodNamed B.named
  have hlocks := B.notSynchronized
  subst hsz
  have hD := hD0.self (sz := s.heap.size)
  generalize hAe : va_A [(tp, .inr (9, [.ref tb, .int 4, .int 0, .int 0])), (tb, .inl (tbk, 400, .inl f))] s.heap.size = A at hD ⊢
  have hA : ∀ q : Nat, s.heap.size ≤ q → A q := fun q h => by rw [← hAe]; exact Or.inr h
  have hS : va_S A s.heap s.heap [] := va_S.rf
  have hl := lv_entry ([.ref tp, .int a0]) (n := 3) (Nat.le_of_ble_eq_true rfl)
  rw [lg_entry_eq]
  generalize (lg_sl ([.ref tp, .int a0]) ++ List.replicate (3 - (lg_sl ([.ref tp, .int a0])).length) Slot.unset).toArray = ls at hl ⊢
  have hl : lv_has ls 3 [(0, .ref tp), (1, .int a0)] := hl
  have hP : va_P (dC, dI) vwCl [(tp, .inr (9, [.ref tb, .int 4, .int 0, .int 0])), (tb, .inl (tbk, 400, .inl f))] s.heap := hP
  try clear hAe
  refine lv_bipush (v := 24) hx hb dX9_add_0 (by decide) ?_
  refine lv_istore_n (lv' := [(2, .int 24), (0, .ref tp), (1, .int a0)]) hx hb dX9_add_2 rfl hl (by decide) rfl (fun ls hl => ?_)
  refine lv_iload_n hx hb dX9_add_3 rfl (lv_at hl 0 rfl) ?_
  refine lv_if_lt (tgt := 46) hx hb dX9_add_4 (by decide) (fun c_1 => absurd c_1 (by decide)) (fun c_1 => ?_)
  refine lv_aload_n hx hb dX9_add_7 rfl (lv_at hl 1 rfl) ?_
  refine va_get (D := (dC, dI)) (ci := 9) (v := .int 4) (C := RX9) (T := TX9) (N := 4) hx hb hts iX9 hown hK hP 0 rfl rfl 1 (by decide) (hts _ tw_37) (fun _ h9 => h9) rfl dX9_add_8 ?_
  refine lv_sipush (v := 400) hx hb dX9_add_11 (by decide) ?_
  refine lv_icmp_ge (tgt := 46) hx hb dX9_add_14 (by decide) (fun c_2 => absurd c_2 (by decide)) (fun c_2 => ?_)
  refine lv_aload_n hx hb dX9_add_17 rfl (lv_at hl 1 rfl) ?_
  refine va_get (D := (dC, dI)) (ci := 9) (v := .ref tb) (C := RX9) (T := TX9) (N := 4) hx hb hts iX9 hown hK hP 0 rfl rfl 0 (by decide) (hts _ tw_36) (fun _ h9 => h9) rfl dX9_add_18 ?_
  refine lv_aload_n hx hb dX9_add_21 rfl (lv_at hl 1 rfl) ?_
  refine va_get (D := (dC, dI)) (ci := 9) (v := .int 4) (C := RX9) (T := TX9) (N := 4) hx hb hts iX9 hown hK hP 0 rfl rfl 1 (by decide) (hts _ tw_37) (fun _ h9 => h9) rfl dX9_add_22 ?_
  refine lv_iload_n hx hb dX9_add_25 rfl (lv_at hl 2 rfl) ?_
  refine lv_iload_n hx hb dX9_add_26 rfl (lv_at hl 0 rfl) ?_
  refine lv_ishr hx hb dX9_add_27 ?_
  refine lv_topi (fun x_3 ex_3 => ?_)
  obtain ⟨x_4, ex_4⟩ : ∃ y : Int32, x_3.toInt8.toInt32 = y := ⟨_, rfl⟩
  refine lv_i2b (v := x_4) hx hb dX9_add_28 ex_4 ?_
  refine va_bast hx hb hK hP hD hS 1 0 rfl rfl (show vp_in 4 400 from (by decide : ¬ ((4 : Int32) < 0 ∨ 400 ≤ (4 : Int32).toNatClampNeg))) dX9_add_29 (fun H locs hP hD hS => ?_)
  have hP : va_P (dC, dI) vwCl [(tp, .inr (9, [.ref tb, .int 4, .int 0, .int 0])), (tb, .inl (tbk, 400, .inl (upd f (Int32.toNatClampNeg 4) (vp_nar .byte x_4))))] H := hP
  have hD : va_D A [(tp, .inr (9, [.ref tb, .int 4, .int 0, .int 0])), (tb, .inl (tbk, 400, .inl (upd f (Int32.toNatClampNeg 4) (vp_nar .byte x_4))))] := hD
  generalize upd f (Int32.toNatClampNeg 4) (vp_nar .byte x_4) = f_5 at hP hD
  refine lv_aload_n hx hb dX9_add_30 rfl (lv_at hl 1 rfl) ?_
  refine lv_dup hx hb dX9_add_31 rfl ?_
  refine va_get (D := (dC, dI)) (ci := 9) (v := .int 4) (C := RX9) (T := TX9) (N := 4) hx hb hts iX9 hown hK hP 0 rfl rfl 1 (by decide) (hts _ tw_37) (fun _ h9 => h9) rfl dX9_add_32 ?_
  refine lv_iconst (v := 1) hx hb dX9_add_35 (by decide) ?_
  refine lv_iadd hx hb dX9_add_36 ?_
  refine lv_topi (fun x_6 ex_6 => ?_)
  obtain rfl : x_6 = 5 := ex_6.trans (by decide)
  refine va_put (D := (dC, dI)) (ci := 9) (v := .int 5) (C := RX9) (T := TX9) (N := 4) hx hb hts iX9 tyX9 tyX9_ok nmX9 hown hK hP hD hS 0 rfl rfl 1 (by decide) (hts _ tw_37) (fun _ h9 => h9) rfl (tyX9_ok 1 (by decide)) rfl rfl (Nat.le_of_ble_eq_true rfl) dX9_add_37 (fun H locs hP hD hS => ?_)
  have hP : va_P (dC, dI) vwCl [(tp, .inr (9, [.ref tb, .int 5, .int 0, .int 0])), (tb, .inl (tbk, 400, .inl f_5))] H := hP
  have hD : va_D A [(tp, .inr (9, [.ref tb, .int 5, .int 0, .int 0])), (tb, .inl (tbk, 400, .inl f_5))] := hD
  refine lv_iinc (v := 16) (lv' := [(2, .int 16), (0, .ref tp), (1, .int a0)]) hx hb dX9_add_40 hl (k := 0) rfl (by decide) (by decide) rfl (fun ls hl => ?_)
  refine lv_goto (tgt := 3) hx hb dX9_add_43 (by decide) ?_
  refine lv_iload_n hx hb dX9_add_3 rfl (lv_at hl 0 rfl) ?_
  refine lv_if_lt (tgt := 46) hx hb dX9_add_4 (by decide) (fun c_7 => absurd c_7 (by decide)) (fun c_7 => ?_)
  refine lv_aload_n hx hb dX9_add_7 rfl (lv_at hl 1 rfl) ?_
  refine va_get (D := (dC, dI)) (ci := 9) (v := .int 5) (C := RX9) (T := TX9) (N := 4) hx hb hts iX9 hown hK hP 0 rfl rfl 1 (by decide) (hts _ tw_37) (fun _ h9 => h9) rfl dX9_add_8 ?_
  refine lv_sipush (v := 400) hx hb dX9_add_11 (by decide) ?_
  refine lv_icmp_ge (tgt := 46) hx hb dX9_add_14 (by decide) (fun c_8 => absurd c_8 (by decide)) (fun c_8 => ?_)
  refine lv_aload_n hx hb dX9_add_17 rfl (lv_at hl 1 rfl) ?_
  refine va_get (D := (dC, dI)) (ci := 9) (v := .ref tb) (C := RX9) (T := TX9) (N := 4) hx hb hts iX9 hown hK hP 0 rfl rfl 0 (by decide) (hts _ tw_36) (fun _ h9 => h9) rfl dX9_add_18 ?_
  refine lv_aload_n hx hb dX9_add_21 rfl (lv_at hl 1 rfl) ?_
  refine va_get (D := (dC, dI)) (ci := 9) (v := .int 5) (C := RX9) (T := TX9) (N := 4) hx hb hts iX9 hown hK hP 0 rfl rfl 1 (by decide) (hts _ tw_37) (fun _ h9 => h9) rfl dX9_add_22 ?_
  refine lv_iload_n hx hb dX9_add_25 rfl (lv_at hl 2 rfl) ?_
  refine lv_iload_n hx hb dX9_add_26 rfl (lv_at hl 0 rfl) ?_
  refine lv_ishr hx hb dX9_add_27 ?_
  refine lv_topi (fun x_9 ex_9 => ?_)
  obtain ⟨x_10, ex_10⟩ : ∃ y : Int32, x_9.toInt8.toInt32 = y := ⟨_, rfl⟩
  refine lv_i2b (v := x_10) hx hb dX9_add_28 ex_10 ?_
  refine va_bast hx hb hK hP hD hS 1 0 rfl rfl (show vp_in 5 400 from (by decide : ¬ ((5 : Int32) < 0 ∨ 400 ≤ (5 : Int32).toNatClampNeg))) dX9_add_29 (fun H locs hP hD hS => ?_)
  have hP : va_P (dC, dI) vwCl [(tp, .inr (9, [.ref tb, .int 5, .int 0, .int 0])), (tb, .inl (tbk, 400, .inl (upd f_5 (Int32.toNatClampNeg 5) (vp_nar .byte x_10))))] H := hP
  have hD : va_D A [(tp, .inr (9, [.ref tb, .int 5, .int 0, .int 0])), (tb, .inl (tbk, 400, .inl (upd f_5 (Int32.toNatClampNeg 5) (vp_nar .byte x_10))))] := hD
  generalize upd f_5 (Int32.toNatClampNeg 5) (vp_nar .byte x_10) = f_11 at hP hD
  refine lv_aload_n hx hb dX9_add_30 rfl (lv_at hl 1 rfl) ?_
  refine lv_dup hx hb dX9_add_31 rfl ?_
  refine va_get (D := (dC, dI)) (ci := 9) (v := .int 5) (C := RX9) (T := TX9) (N := 4) hx hb hts iX9 hown hK hP 0 rfl rfl 1 (by decide) (hts _ tw_37) (fun _ h9 => h9) rfl dX9_add_32 ?_
  refine lv_iconst (v := 1) hx hb dX9_add_35 (by decide) ?_
  refine lv_iadd hx hb dX9_add_36 ?_
  refine lv_topi (fun x_12 ex_12 => ?_)
  obtain rfl : x_12 = 6 := ex_12.trans (by decide)
  refine va_put (D := (dC, dI)) (ci := 9) (v := .int 6) (C := RX9) (T := TX9) (N := 4) hx hb hts iX9 tyX9 tyX9_ok nmX9 hown hK hP hD hS 0 rfl rfl 1 (by decide) (hts _ tw_37) (fun _ h9 => h9) rfl (tyX9_ok 1 (by decide)) rfl rfl (Nat.le_of_ble_eq_true rfl) dX9_add_37 (fun H locs hP hD hS => ?_)
  have hP : va_P (dC, dI) vwCl [(tp, .inr (9, [.ref tb, .int 6, .int 0, .int 0])), (tb, .inl (tbk, 400, .inl f_11))] H := hP
  have hD : va_D A [(tp, .inr (9, [.ref tb, .int 6, .int 0, .int 0])), (tb, .inl (tbk, 400, .inl f_11))] := hD
  refine lv_iinc (v := 8) (lv' := [(2, .int 8), (0, .ref tp), (1, .int a0)]) hx hb dX9_add_40 hl (k := 0) rfl (by decide) (by decide) rfl (fun ls hl => ?_)
  refine lv_goto (tgt := 3) hx hb dX9_add_43 (by decide) ?_
  refine lv_iload_n hx hb dX9_add_3 rfl (lv_at hl 0 rfl) ?_
  refine lv_if_lt (tgt := 46) hx hb dX9_add_4 (by decide) (fun c_13 => absurd c_13 (by decide)) (fun c_13 => ?_)
  refine lv_aload_n hx hb dX9_add_7 rfl (lv_at hl 1 rfl) ?_
  refine va_get (D := (dC, dI)) (ci := 9) (v := .int 6) (C := RX9) (T := TX9) (N := 4) hx hb hts iX9 hown hK hP 0 rfl rfl 1 (by decide) (hts _ tw_37) (fun _ h9 => h9) rfl dX9_add_8 ?_
  refine lv_sipush (v := 400) hx hb dX9_add_11 (by decide) ?_
  refine lv_icmp_ge (tgt := 46) hx hb dX9_add_14 (by decide) (fun c_14 => absurd c_14 (by decide)) (fun c_14 => ?_)
  refine lv_aload_n hx hb dX9_add_17 rfl (lv_at hl 1 rfl) ?_
  refine va_get (D := (dC, dI)) (ci := 9) (v := .ref tb) (C := RX9) (T := TX9) (N := 4) hx hb hts iX9 hown hK hP 0 rfl rfl 0 (by decide) (hts _ tw_36) (fun _ h9 => h9) rfl dX9_add_18 ?_
  refine lv_aload_n hx hb dX9_add_21 rfl (lv_at hl 1 rfl) ?_
  refine va_get (D := (dC, dI)) (ci := 9) (v := .int 6) (C := RX9) (T := TX9) (N := 4) hx hb hts iX9 hown hK hP 0 rfl rfl 1 (by decide) (hts _ tw_37) (fun _ h9 => h9) rfl dX9_add_22 ?_
  refine lv_iload_n hx hb dX9_add_25 rfl (lv_at hl 2 rfl) ?_
  refine lv_iload_n hx hb dX9_add_26 rfl (lv_at hl 0 rfl) ?_
  refine lv_ishr hx hb dX9_add_27 ?_
  refine lv_topi (fun x_15 ex_15 => ?_)
  obtain ⟨x_16, ex_16⟩ : ∃ y : Int32, x_15.toInt8.toInt32 = y := ⟨_, rfl⟩
  refine lv_i2b (v := x_16) hx hb dX9_add_28 ex_16 ?_
  refine va_bast hx hb hK hP hD hS 1 0 rfl rfl (show vp_in 6 400 from (by decide : ¬ ((6 : Int32) < 0 ∨ 400 ≤ (6 : Int32).toNatClampNeg))) dX9_add_29 (fun H locs hP hD hS => ?_)
  have hP : va_P (dC, dI) vwCl [(tp, .inr (9, [.ref tb, .int 6, .int 0, .int 0])), (tb, .inl (tbk, 400, .inl (upd f_11 (Int32.toNatClampNeg 6) (vp_nar .byte x_16))))] H := hP
  have hD : va_D A [(tp, .inr (9, [.ref tb, .int 6, .int 0, .int 0])), (tb, .inl (tbk, 400, .inl (upd f_11 (Int32.toNatClampNeg 6) (vp_nar .byte x_16))))] := hD
  generalize upd f_11 (Int32.toNatClampNeg 6) (vp_nar .byte x_16) = f_17 at hP hD
  refine lv_aload_n hx hb dX9_add_30 rfl (lv_at hl 1 rfl) ?_
  refine lv_dup hx hb dX9_add_31 rfl ?_
  refine va_get (D := (dC, dI)) (ci := 9) (v := .int 6) (C := RX9) (T := TX9) (N := 4) hx hb hts iX9 hown hK hP 0 rfl rfl 1 (by decide) (hts _ tw_37) (fun _ h9 => h9) rfl dX9_add_32 ?_
  refine lv_iconst (v := 1) hx hb dX9_add_35 (by decide) ?_
  refine lv_iadd hx hb dX9_add_36 ?_
  refine lv_topi (fun x_18 ex_18 => ?_)
  obtain rfl : x_18 = 7 := ex_18.trans (by decide)
  refine va_put (D := (dC, dI)) (ci := 9) (v := .int 7) (C := RX9) (T := TX9) (N := 4) hx hb hts iX9 tyX9 tyX9_ok nmX9 hown hK hP hD hS 0 rfl rfl 1 (by decide) (hts _ tw_37) (fun _ h9 => h9) rfl (tyX9_ok 1 (by decide)) rfl rfl (Nat.le_of_ble_eq_true rfl) dX9_add_37 (fun H locs hP hD hS => ?_)
  have hP : va_P (dC, dI) vwCl [(tp, .inr (9, [.ref tb, .int 7, .int 0, .int 0])), (tb, .inl (tbk, 400, .inl f_17))] H := hP
  have hD : va_D A [(tp, .inr (9, [.ref tb, .int 7, .int 0, .int 0])), (tb, .inl (tbk, 400, .inl f_17))] := hD
  refine lv_iinc (v := 0) (lv' := [(2, .int 0), (0, .ref tp), (1, .int a0)]) hx hb dX9_add_40 hl (k := 0) rfl (by decide) (by decide) rfl (fun ls hl => ?_)
  refine lv_goto (tgt := 3) hx hb dX9_add_43 (by decide) ?_
  refine lv_iload_n hx hb dX9_add_3 rfl (lv_at hl 0 rfl) ?_
  refine lv_if_lt (tgt := 46) hx hb dX9_add_4 (by decide) (fun c_19 => absurd c_19 (by decide)) (fun c_19 => ?_)
  refine lv_aload_n hx hb dX9_add_7 rfl (lv_at hl 1 rfl) ?_
  refine va_get (D := (dC, dI)) (ci := 9) (v := .int 7) (C := RX9) (T := TX9) (N := 4) hx hb hts iX9 hown hK hP 0 rfl rfl 1 (by decide) (hts _ tw_37) (fun _ h9 => h9) rfl dX9_add_8 ?_
  refine lv_sipush (v := 400) hx hb dX9_add_11 (by decide) ?_
  refine lv_icmp_ge (tgt := 46) hx hb dX9_add_14 (by decide) (fun c_20 => absurd c_20 (by decide)) (fun c_20 => ?_)
  refine lv_aload_n hx hb dX9_add_17 rfl (lv_at hl 1 rfl) ?_
  refine va_get (D := (dC, dI)) (ci := 9) (v := .ref tb) (C := RX9) (T := TX9) (N := 4) hx hb hts iX9 hown hK hP 0 rfl rfl 0 (by decide) (hts _ tw_36) (fun _ h9 => h9) rfl dX9_add_18 ?_
  refine lv_aload_n hx hb dX9_add_21 rfl (lv_at hl 1 rfl) ?_
  refine va_get (D := (dC, dI)) (ci := 9) (v := .int 7) (C := RX9) (T := TX9) (N := 4) hx hb hts iX9 hown hK hP 0 rfl rfl 1 (by decide) (hts _ tw_37) (fun _ h9 => h9) rfl dX9_add_22 ?_
  refine lv_iload_n hx hb dX9_add_25 rfl (lv_at hl 2 rfl) ?_
  refine lv_iload_n hx hb dX9_add_26 rfl (lv_at hl 0 rfl) ?_
  refine lv_ishr hx hb dX9_add_27 ?_
  refine lv_topi (fun x_21 ex_21 => ?_)
  obtain ⟨x_22, ex_22⟩ : ∃ y : Int32, x_21.toInt8.toInt32 = y := ⟨_, rfl⟩
  refine lv_i2b (v := x_22) hx hb dX9_add_28 ex_22 ?_
  refine va_bast hx hb hK hP hD hS 1 0 rfl rfl (show vp_in 7 400 from (by decide : ¬ ((7 : Int32) < 0 ∨ 400 ≤ (7 : Int32).toNatClampNeg))) dX9_add_29 (fun H locs hP hD hS => ?_)
  have hP : va_P (dC, dI) vwCl [(tp, .inr (9, [.ref tb, .int 7, .int 0, .int 0])), (tb, .inl (tbk, 400, .inl (upd f_17 (Int32.toNatClampNeg 7) (vp_nar .byte x_22))))] H := hP
  have hD : va_D A [(tp, .inr (9, [.ref tb, .int 7, .int 0, .int 0])), (tb, .inl (tbk, 400, .inl (upd f_17 (Int32.toNatClampNeg 7) (vp_nar .byte x_22))))] := hD
  generalize upd f_17 (Int32.toNatClampNeg 7) (vp_nar .byte x_22) = f_23 at hP hD
  refine lv_aload_n hx hb dX9_add_30 rfl (lv_at hl 1 rfl) ?_
  refine lv_dup hx hb dX9_add_31 rfl ?_
  refine va_get (D := (dC, dI)) (ci := 9) (v := .int 7) (C := RX9) (T := TX9) (N := 4) hx hb hts iX9 hown hK hP 0 rfl rfl 1 (by decide) (hts _ tw_37) (fun _ h9 => h9) rfl dX9_add_32 ?_
  refine lv_iconst (v := 1) hx hb dX9_add_35 (by decide) ?_
  refine lv_iadd hx hb dX9_add_36 ?_
  refine lv_topi (fun x_24 ex_24 => ?_)
  obtain rfl : x_24 = 8 := ex_24.trans (by decide)
  refine va_put (D := (dC, dI)) (ci := 9) (v := .int 8) (C := RX9) (T := TX9) (N := 4) hx hb hts iX9 tyX9 tyX9_ok nmX9 hown hK hP hD hS 0 rfl rfl 1 (by decide) (hts _ tw_37) (fun _ h9 => h9) rfl (tyX9_ok 1 (by decide)) rfl rfl (Nat.le_of_ble_eq_true rfl) dX9_add_37 (fun H locs hP hD hS => ?_)
  have hP : va_P (dC, dI) vwCl [(tp, .inr (9, [.ref tb, .int 8, .int 0, .int 0])), (tb, .inl (tbk, 400, .inl f_23))] H := hP
  have hD : va_D A [(tp, .inr (9, [.ref tb, .int 8, .int 0, .int 0])), (tb, .inl (tbk, 400, .inl f_23))] := hD
  refine lv_iinc (v := (-8)) (lv' := [(2, .int (-8)), (0, .ref tp), (1, .int a0)]) hx hb dX9_add_40 hl (k := 0) rfl (by decide) (by decide) rfl (fun ls hl => ?_)
  refine lv_goto (tgt := 3) hx hb dX9_add_43 (by decide) ?_
  refine lv_iload_n hx hb dX9_add_3 rfl (lv_at hl 0 rfl) ?_
  refine lv_if_lt (tgt := 46) hx hb dX9_add_4 (by decide) (fun c_25 => ?_) (fun c_25 => absurd (by decide) c_25)
  have hP9 := hP.sub (ws' := [(tp, .inr (9, [.ref tb, .int 8, .int 0, .int 0])), (tb, .inl (tbk, 400, .inl f_23))]) [0, 1] rfl
  have hD9 := hD.sub (ws' := [(tp, .inr (9, [.ref tb, .int 8, .int 0, .int 0])), (tb, .inl (tbk, 400, .inl f_23))]) [0, 1] (by decide) rfl
  have hK9 := hK.sub (tys' := [(tbk, .byte)]) [0] rfl
  refine W.widen (k := 0) (n := 0) (Nat.le_of_ble_eq_true rfl) (Nat.le_of_ble_eq_true rfl) ?_
  exact W.vret hx hb hr (fun t ht hW => ⟨⟨(), rfl, trivial, ⟨f_23, by rw [ht]; exact hP9, va_K.moved hW.alike hK9, hD9⟩⟩, hS.F ht⟩) hS.2.2 dX9_add_46
set_option maxHeartbeats 4000000 in
set_option maxRecDepth 100000 in
theorem c_add_8 (l : Launch) (dC : Nat → ClassId) (dI : Nat → Nat → Nat) (tp : Nat) (tb : Nat) (tbk : ClassId) (f : Nat → Int32) (a0 : Int32) (sz : Nat) : Met l yX9_add (ws_u yX9_add cX9_add 3 none) ({ frames := 0, cells := 0, slots := 0, locals := 0 }) (va_Pc [.ref tp, .int a0] (cPre (dC, dI) [(tbk, .byte)] [(tp, .inr (9, [.ref tb, .int 8, .int 0, .int 0])), (tb, .inl (tbk, 400, .inl f))] sz)) (va_Qv (fun _ : Unit => True) (fun _ t => ∃ (g : Nat → Int32), cPost (dC, dI) [(tbk, .byte)] [(tp, .inr (9, [.ref tb, .int 12, .int 0, .int 0])), (tb, .inl (tbk, 400, .inl g))] (va_A [(tp, .inr (9, [.ref tb, .int 8, .int 0, .int 0])), (tb, .inl (tbk, 400, .inl f))] sz) t) (va_A [(tp, .inr (9, [.ref tb, .int 8, .int 0, .int 0])), (tb, .inl (tbk, 400, .inl f))] sz)) 0 0 (va_A [(tp, .inr (9, [.ref tb, .int 8, .int 0, .int 0])), (tb, .inl (tbk, 400, .inl f))] sz) := by
  refine Met.ofW (cc := cX9_add) (maxL := 3) (ret := none) (by decide) rfl ?_
  intro p e s m args below meth c s₁ B hml hv
  obtain ⟨rfl, hsz, hP, hK, hD0, hE⟩ := hv
  have hx := B.exec
  have hb := B.bytes
  have hr := B.returns
  have hts0 := atoms_spec (ws := ws_u yX9_add cX9_add 3 none) B.pre
  have hts : ∀ w ∈ gT, w.before _ s = true := fun w h => hts0 w (List.mem_cons_of_mem _ h)
  have hown : s.vm.findClass RX9 = some m.cls := findClass_of_methodNamed B.named
  have hlocks := B.notSynchronized
  subst hsz
  have hD := hD0.self (sz := s.heap.size)
  generalize hAe : va_A [(tp, .inr (9, [.ref tb, .int 8, .int 0, .int 0])), (tb, .inl (tbk, 400, .inl f))] s.heap.size = A at hD ⊢
  have hA : ∀ q : Nat, s.heap.size ≤ q → A q := fun q h => by rw [← hAe]; exact Or.inr h
  have hS : va_S A s.heap s.heap [] := va_S.rf
  have hl := lv_entry ([.ref tp, .int a0]) (n := 3) (Nat.le_of_ble_eq_true rfl)
  rw [lg_entry_eq]
  generalize (lg_sl ([.ref tp, .int a0]) ++ List.replicate (3 - (lg_sl ([.ref tp, .int a0])).length) Slot.unset).toArray = ls at hl ⊢
  have hl : lv_has ls 3 [(0, .ref tp), (1, .int a0)] := hl
  have hP : va_P (dC, dI) vwCl [(tp, .inr (9, [.ref tb, .int 8, .int 0, .int 0])), (tb, .inl (tbk, 400, .inl f))] s.heap := hP
  try clear hAe
  refine lv_bipush (v := 24) hx hb dX9_add_0 (by decide) ?_
  refine lv_istore_n (lv' := [(2, .int 24), (0, .ref tp), (1, .int a0)]) hx hb dX9_add_2 rfl hl (by decide) rfl (fun ls hl => ?_)
  refine lv_iload_n hx hb dX9_add_3 rfl (lv_at hl 0 rfl) ?_
  refine lv_if_lt (tgt := 46) hx hb dX9_add_4 (by decide) (fun c_1 => absurd c_1 (by decide)) (fun c_1 => ?_)
  refine lv_aload_n hx hb dX9_add_7 rfl (lv_at hl 1 rfl) ?_
  refine va_get (D := (dC, dI)) (ci := 9) (v := .int 8) (C := RX9) (T := TX9) (N := 4) hx hb hts iX9 hown hK hP 0 rfl rfl 1 (by decide) (hts _ tw_37) (fun _ h9 => h9) rfl dX9_add_8 ?_
  refine lv_sipush (v := 400) hx hb dX9_add_11 (by decide) ?_
  refine lv_icmp_ge (tgt := 46) hx hb dX9_add_14 (by decide) (fun c_2 => absurd c_2 (by decide)) (fun c_2 => ?_)
  refine lv_aload_n hx hb dX9_add_17 rfl (lv_at hl 1 rfl) ?_
  refine va_get (D := (dC, dI)) (ci := 9) (v := .ref tb) (C := RX9) (T := TX9) (N := 4) hx hb hts iX9 hown hK hP 0 rfl rfl 0 (by decide) (hts _ tw_36) (fun _ h9 => h9) rfl dX9_add_18 ?_
  refine lv_aload_n hx hb dX9_add_21 rfl (lv_at hl 1 rfl) ?_
  refine va_get (D := (dC, dI)) (ci := 9) (v := .int 8) (C := RX9) (T := TX9) (N := 4) hx hb hts iX9 hown hK hP 0 rfl rfl 1 (by decide) (hts _ tw_37) (fun _ h9 => h9) rfl dX9_add_22 ?_
  refine lv_iload_n hx hb dX9_add_25 rfl (lv_at hl 2 rfl) ?_
  refine lv_iload_n hx hb dX9_add_26 rfl (lv_at hl 0 rfl) ?_
  refine lv_ishr hx hb dX9_add_27 ?_
  refine lv_topi (fun x_3 ex_3 => ?_)
  obtain ⟨x_4, ex_4⟩ : ∃ y : Int32, x_3.toInt8.toInt32 = y := ⟨_, rfl⟩
  refine lv_i2b (v := x_4) hx hb dX9_add_28 ex_4 ?_
  refine va_bast hx hb hK hP hD hS 1 0 rfl rfl (show vp_in 8 400 from (by decide : ¬ ((8 : Int32) < 0 ∨ 400 ≤ (8 : Int32).toNatClampNeg))) dX9_add_29 (fun H locs hP hD hS => ?_)
  have hP : va_P (dC, dI) vwCl [(tp, .inr (9, [.ref tb, .int 8, .int 0, .int 0])), (tb, .inl (tbk, 400, .inl (upd f (Int32.toNatClampNeg 8) (vp_nar .byte x_4))))] H := hP
  have hD : va_D A [(tp, .inr (9, [.ref tb, .int 8, .int 0, .int 0])), (tb, .inl (tbk, 400, .inl (upd f (Int32.toNatClampNeg 8) (vp_nar .byte x_4))))] := hD
  generalize upd f (Int32.toNatClampNeg 8) (vp_nar .byte x_4) = f_5 at hP hD
  refine lv_aload_n hx hb dX9_add_30 rfl (lv_at hl 1 rfl) ?_
  refine lv_dup hx hb dX9_add_31 rfl ?_
  refine va_get (D := (dC, dI)) (ci := 9) (v := .int 8) (C := RX9) (T := TX9) (N := 4) hx hb hts iX9 hown hK hP 0 rfl rfl 1 (by decide) (hts _ tw_37) (fun _ h9 => h9) rfl dX9_add_32 ?_
  refine lv_iconst (v := 1) hx hb dX9_add_35 (by decide) ?_
  refine lv_iadd hx hb dX9_add_36 ?_
  refine lv_topi (fun x_6 ex_6 => ?_)
  obtain rfl : x_6 = 9 := ex_6.trans (by decide)
  refine va_put (D := (dC, dI)) (ci := 9) (v := .int 9) (C := RX9) (T := TX9) (N := 4) hx hb hts iX9 tyX9 tyX9_ok nmX9 hown hK hP hD hS 0 rfl rfl 1 (by decide) (hts _ tw_37) (fun _ h9 => h9) rfl (tyX9_ok 1 (by decide)) rfl rfl (Nat.le_of_ble_eq_true rfl) dX9_add_37 (fun H locs hP hD hS => ?_)
  have hP : va_P (dC, dI) vwCl [(tp, .inr (9, [.ref tb, .int 9, .int 0, .int 0])), (tb, .inl (tbk, 400, .inl f_5))] H := hP
  have hD : va_D A [(tp, .inr (9, [.ref tb, .int 9, .int 0, .int 0])), (tb, .inl (tbk, 400, .inl f_5))] := hD
  refine lv_iinc (v := 16) (lv' := [(2, .int 16), (0, .ref tp), (1, .int a0)]) hx hb dX9_add_40 hl (k := 0) rfl (by decide) (by decide) rfl (fun ls hl => ?_)
  refine lv_goto (tgt := 3) hx hb dX9_add_43 (by decide) ?_
  refine lv_iload_n hx hb dX9_add_3 rfl (lv_at hl 0 rfl) ?_
  refine lv_if_lt (tgt := 46) hx hb dX9_add_4 (by decide) (fun c_7 => absurd c_7 (by decide)) (fun c_7 => ?_)
  refine lv_aload_n hx hb dX9_add_7 rfl (lv_at hl 1 rfl) ?_
  refine va_get (D := (dC, dI)) (ci := 9) (v := .int 9) (C := RX9) (T := TX9) (N := 4) hx hb hts iX9 hown hK hP 0 rfl rfl 1 (by decide) (hts _ tw_37) (fun _ h9 => h9) rfl dX9_add_8 ?_
  refine lv_sipush (v := 400) hx hb dX9_add_11 (by decide) ?_
  refine lv_icmp_ge (tgt := 46) hx hb dX9_add_14 (by decide) (fun c_8 => absurd c_8 (by decide)) (fun c_8 => ?_)
  refine lv_aload_n hx hb dX9_add_17 rfl (lv_at hl 1 rfl) ?_
  refine va_get (D := (dC, dI)) (ci := 9) (v := .ref tb) (C := RX9) (T := TX9) (N := 4) hx hb hts iX9 hown hK hP 0 rfl rfl 0 (by decide) (hts _ tw_36) (fun _ h9 => h9) rfl dX9_add_18 ?_
  refine lv_aload_n hx hb dX9_add_21 rfl (lv_at hl 1 rfl) ?_
  refine va_get (D := (dC, dI)) (ci := 9) (v := .int 9) (C := RX9) (T := TX9) (N := 4) hx hb hts iX9 hown hK hP 0 rfl rfl 1 (by decide) (hts _ tw_37) (fun _ h9 => h9) rfl dX9_add_22 ?_
  refine lv_iload_n hx hb dX9_add_25 rfl (lv_at hl 2 rfl) ?_
  refine lv_iload_n hx hb dX9_add_26 rfl (lv_at hl 0 rfl) ?_
  refine lv_ishr hx hb dX9_add_27 ?_
  refine lv_topi (fun x_9 ex_9 => ?_)
  obtain ⟨x_10, ex_10⟩ : ∃ y : Int32, x_9.toInt8.toInt32 = y := ⟨_, rfl⟩
  refine lv_i2b (v := x_10) hx hb dX9_add_28 ex_10 ?_
  refine va_bast hx hb hK hP hD hS 1 0 rfl rfl (show vp_in 9 400 from (by decide : ¬ ((9 : Int32) < 0 ∨ 400 ≤ (9 : Int32).toNatClampNeg))) dX9_add_29 (fun H locs hP hD hS => ?_)
  have hP : va_P (dC, dI) vwCl [(tp, .inr (9, [.ref tb, .int 9, .int 0, .int 0])), (tb, .inl (tbk, 400, .inl (upd f_5 (Int32.toNatClampNeg 9) (vp_nar .byte x_10))))] H := hP
  have hD : va_D A [(tp, .inr (9, [.ref tb, .int 9, .int 0, .int 0])), (tb, .inl (tbk, 400, .inl (upd f_5 (Int32.toNatClampNeg 9) (vp_nar .byte x_10))))] := hD
  generalize upd f_5 (Int32.toNatClampNeg 9) (vp_nar .byte x_10) = f_11 at hP hD
  refine lv_aload_n hx hb dX9_add_30 rfl (lv_at hl 1 rfl) ?_
  refine lv_dup hx hb dX9_add_31 rfl ?_
  refine va_get (D := (dC, dI)) (ci := 9) (v := .int 9) (C := RX9) (T := TX9) (N := 4) hx hb hts iX9 hown hK hP 0 rfl rfl 1 (by decide) (hts _ tw_37) (fun _ h9 => h9) rfl dX9_add_32 ?_
  refine lv_iconst (v := 1) hx hb dX9_add_35 (by decide) ?_
  refine lv_iadd hx hb dX9_add_36 ?_
  refine lv_topi (fun x_12 ex_12 => ?_)
  obtain rfl : x_12 = 10 := ex_12.trans (by decide)
  refine va_put (D := (dC, dI)) (ci := 9) (v := .int 10) (C := RX9) (T := TX9) (N := 4) hx hb hts iX9 tyX9 tyX9_ok nmX9 hown hK hP hD hS 0 rfl rfl 1 (by decide) (hts _ tw_37) (fun _ h9 => h9) rfl (tyX9_ok 1 (by decide)) rfl rfl (Nat.le_of_ble_eq_true rfl) dX9_add_37 (fun H locs hP hD hS => ?_)
  have hP : va_P (dC, dI) vwCl [(tp, .inr (9, [.ref tb, .int 10, .int 0, .int 0])), (tb, .inl (tbk, 400, .inl f_11))] H := hP
  have hD : va_D A [(tp, .inr (9, [.ref tb, .int 10, .int 0, .int 0])), (tb, .inl (tbk, 400, .inl f_11))] := hD
  refine lv_iinc (v := 8) (lv' := [(2, .int 8), (0, .ref tp), (1, .int a0)]) hx hb dX9_add_40 hl (k := 0) rfl (by decide) (by decide) rfl (fun ls hl => ?_)
  refine lv_goto (tgt := 3) hx hb dX9_add_43 (by decide) ?_
  refine lv_iload_n hx hb dX9_add_3 rfl (lv_at hl 0 rfl) ?_
  refine lv_if_lt (tgt := 46) hx hb dX9_add_4 (by decide) (fun c_13 => absurd c_13 (by decide)) (fun c_13 => ?_)
  refine lv_aload_n hx hb dX9_add_7 rfl (lv_at hl 1 rfl) ?_
  refine va_get (D := (dC, dI)) (ci := 9) (v := .int 10) (C := RX9) (T := TX9) (N := 4) hx hb hts iX9 hown hK hP 0 rfl rfl 1 (by decide) (hts _ tw_37) (fun _ h9 => h9) rfl dX9_add_8 ?_
  refine lv_sipush (v := 400) hx hb dX9_add_11 (by decide) ?_
  refine lv_icmp_ge (tgt := 46) hx hb dX9_add_14 (by decide) (fun c_14 => absurd c_14 (by decide)) (fun c_14 => ?_)
  refine lv_aload_n hx hb dX9_add_17 rfl (lv_at hl 1 rfl) ?_
  refine va_get (D := (dC, dI)) (ci := 9) (v := .ref tb) (C := RX9) (T := TX9) (N := 4) hx hb hts iX9 hown hK hP 0 rfl rfl 0 (by decide) (hts _ tw_36) (fun _ h9 => h9) rfl dX9_add_18 ?_
  refine lv_aload_n hx hb dX9_add_21 rfl (lv_at hl 1 rfl) ?_
  refine va_get (D := (dC, dI)) (ci := 9) (v := .int 10) (C := RX9) (T := TX9) (N := 4) hx hb hts iX9 hown hK hP 0 rfl rfl 1 (by decide) (hts _ tw_37) (fun _ h9 => h9) rfl dX9_add_22 ?_
  refine lv_iload_n hx hb dX9_add_25 rfl (lv_at hl 2 rfl) ?_
  refine lv_iload_n hx hb dX9_add_26 rfl (lv_at hl 0 rfl) ?_
  refine lv_ishr hx hb dX9_add_27 ?_
  refine lv_topi (fun x_15 ex_15 => ?_)
  obtain ⟨x_16, ex_16⟩ : ∃ y : Int32, x_15.toInt8.toInt32 = y := ⟨_, rfl⟩
  refine lv_i2b (v := x_16) hx hb dX9_add_28 ex_16 ?_
  refine va_bast hx hb hK hP hD hS 1 0 rfl rfl (show vp_in 10 400 from (by decide : ¬ ((10 : Int32) < 0 ∨ 400 ≤ (10 : Int32).toNatClampNeg))) dX9_add_29 (fun H locs hP hD hS => ?_)
  have hP : va_P (dC, dI) vwCl [(tp, .inr (9, [.ref tb, .int 10, .int 0, .int 0])), (tb, .inl (tbk, 400, .inl (upd f_11 (Int32.toNatClampNeg 10) (vp_nar .byte x_16))))] H := hP
  have hD : va_D A [(tp, .inr (9, [.ref tb, .int 10, .int 0, .int 0])), (tb, .inl (tbk, 400, .inl (upd f_11 (Int32.toNatClampNeg 10) (vp_nar .byte x_16))))] := hD
  generalize upd f_11 (Int32.toNatClampNeg 10) (vp_nar .byte x_16) = f_17 at hP hD
  refine lv_aload_n hx hb dX9_add_30 rfl (lv_at hl 1 rfl) ?_
  refine lv_dup hx hb dX9_add_31 rfl ?_
  refine va_get (D := (dC, dI)) (ci := 9) (v := .int 10) (C := RX9) (T := TX9) (N := 4) hx hb hts iX9 hown hK hP 0 rfl rfl 1 (by decide) (hts _ tw_37) (fun _ h9 => h9) rfl dX9_add_32 ?_
  refine lv_iconst (v := 1) hx hb dX9_add_35 (by decide) ?_
  refine lv_iadd hx hb dX9_add_36 ?_
  refine lv_topi (fun x_18 ex_18 => ?_)
  obtain rfl : x_18 = 11 := ex_18.trans (by decide)
  refine va_put (D := (dC, dI)) (ci := 9) (v := .int 11) (C := RX9) (T := TX9) (N := 4) hx hb hts iX9 tyX9 tyX9_ok nmX9 hown hK hP hD hS 0 rfl rfl 1 (by decide) (hts _ tw_37) (fun _ h9 => h9) rfl (tyX9_ok 1 (by decide)) rfl rfl (Nat.le_of_ble_eq_true rfl) dX9_add_37 (fun H locs hP hD hS => ?_)
  have hP : va_P (dC, dI) vwCl [(tp, .inr (9, [.ref tb, .int 11, .int 0, .int 0])), (tb, .inl (tbk, 400, .inl f_17))] H := hP
  have hD : va_D A [(tp, .inr (9, [.ref tb, .int 11, .int 0, .int 0])), (tb, .inl (tbk, 400, .inl f_17))] := hD
  refine lv_iinc (v := 0) (lv' := [(2, .int 0), (0, .ref tp), (1, .int a0)]) hx hb dX9_add_40 hl (k := 0) rfl (by decide) (by decide) rfl (fun ls hl => ?_)
  refine lv_goto (tgt := 3) hx hb dX9_add_43 (by decide) ?_
  refine lv_iload_n hx hb dX9_add_3 rfl (lv_at hl 0 rfl) ?_
  refine lv_if_lt (tgt := 46) hx hb dX9_add_4 (by decide) (fun c_19 => absurd c_19 (by decide)) (fun c_19 => ?_)
  refine lv_aload_n hx hb dX9_add_7 rfl (lv_at hl 1 rfl) ?_
  refine va_get (D := (dC, dI)) (ci := 9) (v := .int 11) (C := RX9) (T := TX9) (N := 4) hx hb hts iX9 hown hK hP 0 rfl rfl 1 (by decide) (hts _ tw_37) (fun _ h9 => h9) rfl dX9_add_8 ?_
  refine lv_sipush (v := 400) hx hb dX9_add_11 (by decide) ?_
  refine lv_icmp_ge (tgt := 46) hx hb dX9_add_14 (by decide) (fun c_20 => absurd c_20 (by decide)) (fun c_20 => ?_)
  refine lv_aload_n hx hb dX9_add_17 rfl (lv_at hl 1 rfl) ?_
  refine va_get (D := (dC, dI)) (ci := 9) (v := .ref tb) (C := RX9) (T := TX9) (N := 4) hx hb hts iX9 hown hK hP 0 rfl rfl 0 (by decide) (hts _ tw_36) (fun _ h9 => h9) rfl dX9_add_18 ?_
  refine lv_aload_n hx hb dX9_add_21 rfl (lv_at hl 1 rfl) ?_
  refine va_get (D := (dC, dI)) (ci := 9) (v := .int 11) (C := RX9) (T := TX9) (N := 4) hx hb hts iX9 hown hK hP 0 rfl rfl 1 (by decide) (hts _ tw_37) (fun _ h9 => h9) rfl dX9_add_22 ?_
  refine lv_iload_n hx hb dX9_add_25 rfl (lv_at hl 2 rfl) ?_
  refine lv_iload_n hx hb dX9_add_26 rfl (lv_at hl 0 rfl) ?_
  refine lv_ishr hx hb dX9_add_27 ?_
  refine lv_topi (fun x_21 ex_21 => ?_)
  obtain ⟨x_22, ex_22⟩ : ∃ y : Int32, x_21.toInt8.toInt32 = y := ⟨_, rfl⟩
  refine lv_i2b (v := x_22) hx hb dX9_add_28 ex_22 ?_
  refine va_bast hx hb hK hP hD hS 1 0 rfl rfl (show vp_in 11 400 from (by decide : ¬ ((11 : Int32) < 0 ∨ 400 ≤ (11 : Int32).toNatClampNeg))) dX9_add_29 (fun H locs hP hD hS => ?_)
  have hP : va_P (dC, dI) vwCl [(tp, .inr (9, [.ref tb, .int 11, .int 0, .int 0])), (tb, .inl (tbk, 400, .inl (upd f_17 (Int32.toNatClampNeg 11) (vp_nar .byte x_22))))] H := hP
  have hD : va_D A [(tp, .inr (9, [.ref tb, .int 11, .int 0, .int 0])), (tb, .inl (tbk, 400, .inl (upd f_17 (Int32.toNatClampNeg 11) (vp_nar .byte x_22))))] := hD
  generalize upd f_17 (Int32.toNatClampNeg 11) (vp_nar .byte x_22) = f_23 at hP hD
  refine lv_aload_n hx hb dX9_add_30 rfl (lv_at hl 1 rfl) ?_
  refine lv_dup hx hb dX9_add_31 rfl ?_
  refine va_get (D := (dC, dI)) (ci := 9) (v := .int 11) (C := RX9) (T := TX9) (N := 4) hx hb hts iX9 hown hK hP 0 rfl rfl 1 (by decide) (hts _ tw_37) (fun _ h9 => h9) rfl dX9_add_32 ?_
  refine lv_iconst (v := 1) hx hb dX9_add_35 (by decide) ?_
  refine lv_iadd hx hb dX9_add_36 ?_
  refine lv_topi (fun x_24 ex_24 => ?_)
  obtain rfl : x_24 = 12 := ex_24.trans (by decide)
  refine va_put (D := (dC, dI)) (ci := 9) (v := .int 12) (C := RX9) (T := TX9) (N := 4) hx hb hts iX9 tyX9 tyX9_ok nmX9 hown hK hP hD hS 0 rfl rfl 1 (by decide) (hts _ tw_37) (fun _ h9 => h9) rfl (tyX9_ok 1 (by decide)) rfl rfl (Nat.le_of_ble_eq_true rfl) dX9_add_37 (fun H locs hP hD hS => ?_)
  have hP : va_P (dC, dI) vwCl [(tp, .inr (9, [.ref tb, .int 12, .int 0, .int 0])), (tb, .inl (tbk, 400, .inl f_23))] H := hP
  have hD : va_D A [(tp, .inr (9, [.ref tb, .int 12, .int 0, .int 0])), (tb, .inl (tbk, 400, .inl f_23))] := hD
  refine lv_iinc (v := (-8)) (lv' := [(2, .int (-8)), (0, .ref tp), (1, .int a0)]) hx hb dX9_add_40 hl (k := 0) rfl (by decide) (by decide) rfl (fun ls hl => ?_)
  refine lv_goto (tgt := 3) hx hb dX9_add_43 (by decide) ?_
  refine lv_iload_n hx hb dX9_add_3 rfl (lv_at hl 0 rfl) ?_
  refine lv_if_lt (tgt := 46) hx hb dX9_add_4 (by decide) (fun c_25 => ?_) (fun c_25 => absurd (by decide) c_25)
  have hP9 := hP.sub (ws' := [(tp, .inr (9, [.ref tb, .int 12, .int 0, .int 0])), (tb, .inl (tbk, 400, .inl f_23))]) [0, 1] rfl
  have hD9 := hD.sub (ws' := [(tp, .inr (9, [.ref tb, .int 12, .int 0, .int 0])), (tb, .inl (tbk, 400, .inl f_23))]) [0, 1] (by decide) rfl
  have hK9 := hK.sub (tys' := [(tbk, .byte)]) [0] rfl
  refine W.widen (k := 0) (n := 0) (Nat.le_of_ble_eq_true rfl) (Nat.le_of_ble_eq_true rfl) ?_
  exact W.vret hx hb hr (fun t ht hW => ⟨⟨(), rfl, trivial, ⟨f_23, by rw [ht]; exact hP9, va_K.moved hW.alike hK9, hD9⟩⟩, hS.F ht⟩) hS.2.2 dX9_add_46
set_option maxHeartbeats 4000000 in
set_option maxRecDepth 100000 in
theorem c_add_12 (l : Launch) (dC : Nat → ClassId) (dI : Nat → Nat → Nat) (tp : Nat) (tb : Nat) (tbk : ClassId) (f : Nat → Int32) (a0 : Int32) (sz : Nat) : Met l yX9_add (ws_u yX9_add cX9_add 3 none) ({ frames := 0, cells := 0, slots := 0, locals := 0 }) (va_Pc [.ref tp, .int a0] (cPre (dC, dI) [(tbk, .byte)] [(tp, .inr (9, [.ref tb, .int 12, .int 0, .int 0])), (tb, .inl (tbk, 400, .inl f))] sz)) (va_Qv (fun _ : Unit => True) (fun _ t => ∃ (g : Nat → Int32), cPost (dC, dI) [(tbk, .byte)] [(tp, .inr (9, [.ref tb, .int 16, .int 0, .int 0])), (tb, .inl (tbk, 400, .inl g))] (va_A [(tp, .inr (9, [.ref tb, .int 12, .int 0, .int 0])), (tb, .inl (tbk, 400, .inl f))] sz) t) (va_A [(tp, .inr (9, [.ref tb, .int 12, .int 0, .int 0])), (tb, .inl (tbk, 400, .inl f))] sz)) 0 0 (va_A [(tp, .inr (9, [.ref tb, .int 12, .int 0, .int 0])), (tb, .inl (tbk, 400, .inl f))] sz) := by
  refine Met.ofW (cc := cX9_add) (maxL := 3) (ret := none) (by decide) rfl ?_
  intro p e s m args below meth c s₁ B hml hv
  obtain ⟨rfl, hsz, hP, hK, hD0, hE⟩ := hv
  have hx := B.exec
  have hb := B.bytes
  have hr := B.returns
  have hts0 := atoms_spec (ws := ws_u yX9_add cX9_add 3 none) B.pre
  have hts : ∀ w ∈ gT, w.before _ s = true := fun w h => hts0 w (List.mem_cons_of_mem _ h)
  have hown : s.vm.findClass RX9 = some m.cls := findClass_of_methodNamed B.named
  have hlocks := B.notSynchronized
  subst hsz
  have hD := hD0.self (sz := s.heap.size)
  generalize hAe : va_A [(tp, .inr (9, [.ref tb, .int 12, .int 0, .int 0])), (tb, .inl (tbk, 400, .inl f))] s.heap.size = A at hD ⊢
  have hA : ∀ q : Nat, s.heap.size ≤ q → A q := fun q h => by rw [← hAe]; exact Or.inr h
  have hS : va_S A s.heap s.heap [] := va_S.rf
  have hl := lv_entry ([.ref tp, .int a0]) (n := 3) (Nat.le_of_ble_eq_true rfl)
  rw [lg_entry_eq]
  generalize (lg_sl ([.ref tp, .int a0]) ++ List.replicate (3 - (lg_sl ([.ref tp, .int a0])).length) Slot.unset).toArray = ls at hl ⊢
  have hl : lv_has ls 3 [(0, .ref tp), (1, .int a0)] := hl
  have hP : va_P (dC, dI) vwCl [(tp, .inr (9, [.ref tb, .int 12, .int 0, .int 0])), (tb, .inl (tbk, 400, .inl f))] s.heap := hP
  try clear hAe
  refine lv_bipush (v := 24) hx hb dX9_add_0 (by decide) ?_
  refine lv_istore_n (lv' := [(2, .int 24), (0, .ref tp), (1, .int a0)]) hx hb dX9_add_2 rfl hl (by decide) rfl (fun ls hl => ?_)
  refine lv_iload_n hx hb dX9_add_3 rfl (lv_at hl 0 rfl) ?_
  refine lv_if_lt (tgt := 46) hx hb dX9_add_4 (by decide) (fun c_1 => absurd c_1 (by decide)) (fun c_1 => ?_)
  refine lv_aload_n hx hb dX9_add_7 rfl (lv_at hl 1 rfl) ?_
  refine va_get (D := (dC, dI)) (ci := 9) (v := .int 12) (C := RX9) (T := TX9) (N := 4) hx hb hts iX9 hown hK hP 0 rfl rfl 1 (by decide) (hts _ tw_37) (fun _ h9 => h9) rfl dX9_add_8 ?_
  refine lv_sipush (v := 400) hx hb dX9_add_11 (by decide) ?_
  refine lv_icmp_ge (tgt := 46) hx hb dX9_add_14 (by decide) (fun c_2 => absurd c_2 (by decide)) (fun c_2 => ?_)
  refine lv_aload_n hx hb dX9_add_17 rfl (lv_at hl 1 rfl) ?_
  refine va_get (D := (dC, dI)) (ci := 9) (v := .ref tb) (C := RX9) (T := TX9) (N := 4) hx hb hts iX9 hown hK hP 0 rfl rfl 0 (by decide) (hts _ tw_36) (fun _ h9 => h9) rfl dX9_add_18 ?_
  refine lv_aload_n hx hb dX9_add_21 rfl (lv_at hl 1 rfl) ?_
  refine va_get (D := (dC, dI)) (ci := 9) (v := .int 12) (C := RX9) (T := TX9) (N := 4) hx hb hts iX9 hown hK hP 0 rfl rfl 1 (by decide) (hts _ tw_37) (fun _ h9 => h9) rfl dX9_add_22 ?_
  refine lv_iload_n hx hb dX9_add_25 rfl (lv_at hl 2 rfl) ?_
  refine lv_iload_n hx hb dX9_add_26 rfl (lv_at hl 0 rfl) ?_
  refine lv_ishr hx hb dX9_add_27 ?_
  refine lv_topi (fun x_3 ex_3 => ?_)
  obtain ⟨x_4, ex_4⟩ : ∃ y : Int32, x_3.toInt8.toInt32 = y := ⟨_, rfl⟩
  refine lv_i2b (v := x_4) hx hb dX9_add_28 ex_4 ?_
  refine va_bast hx hb hK hP hD hS 1 0 rfl rfl (show vp_in 12 400 from (by decide : ¬ ((12 : Int32) < 0 ∨ 400 ≤ (12 : Int32).toNatClampNeg))) dX9_add_29 (fun H locs hP hD hS => ?_)
  have hP : va_P (dC, dI) vwCl [(tp, .inr (9, [.ref tb, .int 12, .int 0, .int 0])), (tb, .inl (tbk, 400, .inl (upd f (Int32.toNatClampNeg 12) (vp_nar .byte x_4))))] H := hP
  have hD : va_D A [(tp, .inr (9, [.ref tb, .int 12, .int 0, .int 0])), (tb, .inl (tbk, 400, .inl (upd f (Int32.toNatClampNeg 12) (vp_nar .byte x_4))))] := hD
  generalize upd f (Int32.toNatClampNeg 12) (vp_nar .byte x_4) = f_5 at hP hD
  refine lv_aload_n hx hb dX9_add_30 rfl (lv_at hl 1 rfl) ?_
  refine lv_dup hx hb dX9_add_31 rfl ?_
  refine va_get (D := (dC, dI)) (ci := 9) (v := .int 12) (C := RX9) (T := TX9) (N := 4) hx hb hts iX9 hown hK hP 0 rfl rfl 1 (by decide) (hts _ tw_37) (fun _ h9 => h9) rfl dX9_add_32 ?_
  refine lv_iconst (v := 1) hx hb dX9_add_35 (by decide) ?_
  refine lv_iadd hx hb dX9_add_36 ?_
  refine lv_topi (fun x_6 ex_6 => ?_)
  obtain rfl : x_6 = 13 := ex_6.trans (by decide)
  refine va_put (D := (dC, dI)) (ci := 9) (v := .int 13) (C := RX9) (T := TX9) (N := 4) hx hb hts iX9 tyX9 tyX9_ok nmX9 hown hK hP hD hS 0 rfl rfl 1 (by decide) (hts _ tw_37) (fun _ h9 => h9) rfl (tyX9_ok 1 (by decide)) rfl rfl (Nat.le_of_ble_eq_true rfl) dX9_add_37 (fun H locs hP hD hS => ?_)
  have hP : va_P (dC, dI) vwCl [(tp, .inr (9, [.ref tb, .int 13, .int 0, .int 0])), (tb, .inl (tbk, 400, .inl f_5))] H := hP
  have hD : va_D A [(tp, .inr (9, [.ref tb, .int 13, .int 0, .int 0])), (tb, .inl (tbk, 400, .inl f_5))] := hD
  refine lv_iinc (v := 16) (lv' := [(2, .int 16), (0, .ref tp), (1, .int a0)]) hx hb dX9_add_40 hl (k := 0) rfl (by decide) (by decide) rfl (fun ls hl => ?_)
  refine lv_goto (tgt := 3) hx hb dX9_add_43 (by decide) ?_
  refine lv_iload_n hx hb dX9_add_3 rfl (lv_at hl 0 rfl) ?_
  refine lv_if_lt (tgt := 46) hx hb dX9_add_4 (by decide) (fun c_7 => absurd c_7 (by decide)) (fun c_7 => ?_)
  refine lv_aload_n hx hb dX9_add_7 rfl (lv_at hl 1 rfl) ?_
  refine va_get (D := (dC, dI)) (ci := 9) (v := .int 13) (C := RX9) (T := TX9) (N := 4) hx hb hts iX9 hown hK hP 0 rfl rfl 1 (by decide) (hts _ tw_37) (fun _ h9 => h9) rfl dX9_add_8 ?_
  refine lv_sipush (v := 400) hx hb dX9_add_11 (by decide) ?_
  refine lv_icmp_ge (tgt := 46) hx hb dX9_add_14 (by decide) (fun c_8 => absurd c_8 (by decide)) (fun c_8 => ?_)
  refine lv_aload_n hx hb dX9_add_17 rfl (lv_at hl 1 rfl) ?_
  refine va_get (D := (dC, dI)) (ci := 9) (v := .ref tb) (C := RX9) (T := TX9) (N := 4) hx hb hts iX9 hown hK hP 0 rfl rfl 0 (by decide) (hts _ tw_36) (fun _ h9 => h9) rfl dX9_add_18 ?_
  refine lv_aload_n hx hb dX9_add_21 rfl (lv_at hl 1 rfl) ?_
  refine va_get (D := (dC, dI)) (ci := 9) (v := .int 13) (C := RX9) (T := TX9) (N := 4) hx hb hts iX9 hown hK hP 0 rfl rfl 1 (by decide) (hts _ tw_37) (fun _ h9 => h9) rfl dX9_add_22 ?_
  refine lv_iload_n hx hb dX9_add_25 rfl (lv_at hl 2 rfl) ?_
  refine lv_iload_n hx hb dX9_add_26 rfl (lv_at hl 0 rfl) ?_
  refine lv_ishr hx hb dX9_add_27 ?_
  refine lv_topi (fun x_9 ex_9 => ?_)
  obtain ⟨x_10, ex_10⟩ : ∃ y : Int32, x_9.toInt8.toInt32 = y := ⟨_, rfl⟩
  refine lv_i2b (v := x_10) hx hb dX9_add_28 ex_10 ?_
  refine va_bast hx hb hK hP hD hS 1 0 rfl rfl (show vp_in 13 400 from (by decide : ¬ ((13 : Int32) < 0 ∨ 400 ≤ (13 : Int32).toNatClampNeg))) dX9_add_29 (fun H locs hP hD hS => ?_)
  have hP : va_P (dC, dI) vwCl [(tp, .inr (9, [.ref tb, .int 13, .int 0, .int 0])), (tb, .inl (tbk, 400, .inl (upd f_5 (Int32.toNatClampNeg 13) (vp_nar .byte x_10))))] H := hP
  have hD : va_D A [(tp, .inr (9, [.ref tb, .int 13, .int 0, .int 0])), (tb, .inl (tbk, 400, .inl (upd f_5 (Int32.toNatClampNeg 13) (vp_nar .byte x_10))))] := hD
  generalize upd f_5 (Int32.toNatClampNeg 13) (vp_nar .byte x_10) = f_11 at hP hD
  refine lv_aload_n hx hb dX9_add_30 rfl (lv_at hl 1 rfl) ?_
  refine lv_dup hx hb dX9_add_31 rfl ?_
  refine va_get (D := (dC, dI)) (ci := 9) (v := .int 13) (C := RX9) (T := TX9) (N := 4) hx hb hts iX9 hown hK hP 0 rfl rfl 1 (by decide) (hts _ tw_37) (fun _ h9 => h9) rfl dX9_add_32 ?_
  refine lv_iconst (v := 1) hx hb dX9_add_35 (by decide) ?_
  refine lv_iadd hx hb dX9_add_36 ?_
  refine lv_topi (fun x_12 ex_12 => ?_)
  obtain rfl : x_12 = 14 := ex_12.trans (by decide)
  refine va_put (D := (dC, dI)) (ci := 9) (v := .int 14) (C := RX9) (T := TX9) (N := 4) hx hb hts iX9 tyX9 tyX9_ok nmX9 hown hK hP hD hS 0 rfl rfl 1 (by decide) (hts _ tw_37) (fun _ h9 => h9) rfl (tyX9_ok 1 (by decide)) rfl rfl (Nat.le_of_ble_eq_true rfl) dX9_add_37 (fun H locs hP hD hS => ?_)
  have hP : va_P (dC, dI) vwCl [(tp, .inr (9, [.ref tb, .int 14, .int 0, .int 0])), (tb, .inl (tbk, 400, .inl f_11))] H := hP
  have hD : va_D A [(tp, .inr (9, [.ref tb, .int 14, .int 0, .int 0])), (tb, .inl (tbk, 400, .inl f_11))] := hD
  refine lv_iinc (v := 8) (lv' := [(2, .int 8), (0, .ref tp), (1, .int a0)]) hx hb dX9_add_40 hl (k := 0) rfl (by decide) (by decide) rfl (fun ls hl => ?_)
  refine lv_goto (tgt := 3) hx hb dX9_add_43 (by decide) ?_
  refine lv_iload_n hx hb dX9_add_3 rfl (lv_at hl 0 rfl) ?_
  refine lv_if_lt (tgt := 46) hx hb dX9_add_4 (by decide) (fun c_13 => absurd c_13 (by decide)) (fun c_13 => ?_)
  refine lv_aload_n hx hb dX9_add_7 rfl (lv_at hl 1 rfl) ?_
  refine va_get (D := (dC, dI)) (ci := 9) (v := .int 14) (C := RX9) (T := TX9) (N := 4) hx hb hts iX9 hown hK hP 0 rfl rfl 1 (by decide) (hts _ tw_37) (fun _ h9 => h9) rfl dX9_add_8 ?_
  refine lv_sipush (v := 400) hx hb dX9_add_11 (by decide) ?_
  refine lv_icmp_ge (tgt := 46) hx hb dX9_add_14 (by decide) (fun c_14 => absurd c_14 (by decide)) (fun c_14 => ?_)
  refine lv_aload_n hx hb dX9_add_17 rfl (lv_at hl 1 rfl) ?_
  refine va_get (D := (dC, dI)) (ci := 9) (v := .ref tb) (C := RX9) (T := TX9) (N := 4) hx hb hts iX9 hown hK hP 0 rfl rfl 0 (by decide) (hts _ tw_36) (fun _ h9 => h9) rfl dX9_add_18 ?_
  refine lv_aload_n hx hb dX9_add_21 rfl (lv_at hl 1 rfl) ?_
  refine va_get (D := (dC, dI)) (ci := 9) (v := .int 14) (C := RX9) (T := TX9) (N := 4) hx hb hts iX9 hown hK hP 0 rfl rfl 1 (by decide) (hts _ tw_37) (fun _ h9 => h9) rfl dX9_add_22 ?_
  refine lv_iload_n hx hb dX9_add_25 rfl (lv_at hl 2 rfl) ?_
  refine lv_iload_n hx hb dX9_add_26 rfl (lv_at hl 0 rfl) ?_
  refine lv_ishr hx hb dX9_add_27 ?_
  refine lv_topi (fun x_15 ex_15 => ?_)
  obtain ⟨x_16, ex_16⟩ : ∃ y : Int32, x_15.toInt8.toInt32 = y := ⟨_, rfl⟩
  refine lv_i2b (v := x_16) hx hb dX9_add_28 ex_16 ?_
  refine va_bast hx hb hK hP hD hS 1 0 rfl rfl (show vp_in 14 400 from (by decide : ¬ ((14 : Int32) < 0 ∨ 400 ≤ (14 : Int32).toNatClampNeg))) dX9_add_29 (fun H locs hP hD hS => ?_)
  have hP : va_P (dC, dI) vwCl [(tp, .inr (9, [.ref tb, .int 14, .int 0, .int 0])), (tb, .inl (tbk, 400, .inl (upd f_11 (Int32.toNatClampNeg 14) (vp_nar .byte x_16))))] H := hP
  have hD : va_D A [(tp, .inr (9, [.ref tb, .int 14, .int 0, .int 0])), (tb, .inl (tbk, 400, .inl (upd f_11 (Int32.toNatClampNeg 14) (vp_nar .byte x_16))))] := hD
  generalize upd f_11 (Int32.toNatClampNeg 14) (vp_nar .byte x_16) = f_17 at hP hD
  refine lv_aload_n hx hb dX9_add_30 rfl (lv_at hl 1 rfl) ?_
  refine lv_dup hx hb dX9_add_31 rfl ?_
  refine va_get (D := (dC, dI)) (ci := 9) (v := .int 14) (C := RX9) (T := TX9) (N := 4) hx hb hts iX9 hown hK hP 0 rfl rfl 1 (by decide) (hts _ tw_37) (fun _ h9 => h9) rfl dX9_add_32 ?_
  refine lv_iconst (v := 1) hx hb dX9_add_35 (by decide) ?_
  refine lv_iadd hx hb dX9_add_36 ?_
  refine lv_topi (fun x_18 ex_18 => ?_)
  obtain rfl : x_18 = 15 := ex_18.trans (by decide)
  refine va_put (D := (dC, dI)) (ci := 9) (v := .int 15) (C := RX9) (T := TX9) (N := 4) hx hb hts iX9 tyX9 tyX9_ok nmX9 hown hK hP hD hS 0 rfl rfl 1 (by decide) (hts _ tw_37) (fun _ h9 => h9) rfl (tyX9_ok 1 (by decide)) rfl rfl (Nat.le_of_ble_eq_true rfl) dX9_add_37 (fun H locs hP hD hS => ?_)
  have hP : va_P (dC, dI) vwCl [(tp, .inr (9, [.ref tb, .int 15, .int 0, .int 0])), (tb, .inl (tbk, 400, .inl f_17))] H := hP
  have hD : va_D A [(tp, .inr (9, [.ref tb, .int 15, .int 0, .int 0])), (tb, .inl (tbk, 400, .inl f_17))] := hD
  refine lv_iinc (v := 0) (lv' := [(2, .int 0), (0, .ref tp), (1, .int a0)]) hx hb dX9_add_40 hl (k := 0) rfl (by decide) (by decide) rfl (fun ls hl => ?_)
  refine lv_goto (tgt := 3) hx hb dX9_add_43 (by decide) ?_
  refine lv_iload_n hx hb dX9_add_3 rfl (lv_at hl 0 rfl) ?_
  refine lv_if_lt (tgt := 46) hx hb dX9_add_4 (by decide) (fun c_19 => absurd c_19 (by decide)) (fun c_19 => ?_)
  refine lv_aload_n hx hb dX9_add_7 rfl (lv_at hl 1 rfl) ?_
  refine va_get (D := (dC, dI)) (ci := 9) (v := .int 15) (C := RX9) (T := TX9) (N := 4) hx hb hts iX9 hown hK hP 0 rfl rfl 1 (by decide) (hts _ tw_37) (fun _ h9 => h9) rfl dX9_add_8 ?_
  refine lv_sipush (v := 400) hx hb dX9_add_11 (by decide) ?_
  refine lv_icmp_ge (tgt := 46) hx hb dX9_add_14 (by decide) (fun c_20 => absurd c_20 (by decide)) (fun c_20 => ?_)
  refine lv_aload_n hx hb dX9_add_17 rfl (lv_at hl 1 rfl) ?_
  refine va_get (D := (dC, dI)) (ci := 9) (v := .ref tb) (C := RX9) (T := TX9) (N := 4) hx hb hts iX9 hown hK hP 0 rfl rfl 0 (by decide) (hts _ tw_36) (fun _ h9 => h9) rfl dX9_add_18 ?_
  refine lv_aload_n hx hb dX9_add_21 rfl (lv_at hl 1 rfl) ?_
  refine va_get (D := (dC, dI)) (ci := 9) (v := .int 15) (C := RX9) (T := TX9) (N := 4) hx hb hts iX9 hown hK hP 0 rfl rfl 1 (by decide) (hts _ tw_37) (fun _ h9 => h9) rfl dX9_add_22 ?_
  refine lv_iload_n hx hb dX9_add_25 rfl (lv_at hl 2 rfl) ?_
  refine lv_iload_n hx hb dX9_add_26 rfl (lv_at hl 0 rfl) ?_
  refine lv_ishr hx hb dX9_add_27 ?_
  refine lv_topi (fun x_21 ex_21 => ?_)
  obtain ⟨x_22, ex_22⟩ : ∃ y : Int32, x_21.toInt8.toInt32 = y := ⟨_, rfl⟩
  refine lv_i2b (v := x_22) hx hb dX9_add_28 ex_22 ?_
  refine va_bast hx hb hK hP hD hS 1 0 rfl rfl (show vp_in 15 400 from (by decide : ¬ ((15 : Int32) < 0 ∨ 400 ≤ (15 : Int32).toNatClampNeg))) dX9_add_29 (fun H locs hP hD hS => ?_)
  have hP : va_P (dC, dI) vwCl [(tp, .inr (9, [.ref tb, .int 15, .int 0, .int 0])), (tb, .inl (tbk, 400, .inl (upd f_17 (Int32.toNatClampNeg 15) (vp_nar .byte x_22))))] H := hP
  have hD : va_D A [(tp, .inr (9, [.ref tb, .int 15, .int 0, .int 0])), (tb, .inl (tbk, 400, .inl (upd f_17 (Int32.toNatClampNeg 15) (vp_nar .byte x_22))))] := hD
  generalize upd f_17 (Int32.toNatClampNeg 15) (vp_nar .byte x_22) = f_23 at hP hD
  refine lv_aload_n hx hb dX9_add_30 rfl (lv_at hl 1 rfl) ?_
  refine lv_dup hx hb dX9_add_31 rfl ?_
  refine va_get (D := (dC, dI)) (ci := 9) (v := .int 15) (C := RX9) (T := TX9) (N := 4) hx hb hts iX9 hown hK hP 0 rfl rfl 1 (by decide) (hts _ tw_37) (fun _ h9 => h9) rfl dX9_add_32 ?_
  refine lv_iconst (v := 1) hx hb dX9_add_35 (by decide) ?_
  refine lv_iadd hx hb dX9_add_36 ?_
  refine lv_topi (fun x_24 ex_24 => ?_)
  obtain rfl : x_24 = 16 := ex_24.trans (by decide)
  refine va_put (D := (dC, dI)) (ci := 9) (v := .int 16) (C := RX9) (T := TX9) (N := 4) hx hb hts iX9 tyX9 tyX9_ok nmX9 hown hK hP hD hS 0 rfl rfl 1 (by decide) (hts _ tw_37) (fun _ h9 => h9) rfl (tyX9_ok 1 (by decide)) rfl rfl (Nat.le_of_ble_eq_true rfl) dX9_add_37 (fun H locs hP hD hS => ?_)
  have hP : va_P (dC, dI) vwCl [(tp, .inr (9, [.ref tb, .int 16, .int 0, .int 0])), (tb, .inl (tbk, 400, .inl f_23))] H := hP
  have hD : va_D A [(tp, .inr (9, [.ref tb, .int 16, .int 0, .int 0])), (tb, .inl (tbk, 400, .inl f_23))] := hD
  refine lv_iinc (v := (-8)) (lv' := [(2, .int (-8)), (0, .ref tp), (1, .int a0)]) hx hb dX9_add_40 hl (k := 0) rfl (by decide) (by decide) rfl (fun ls hl => ?_)
  refine lv_goto (tgt := 3) hx hb dX9_add_43 (by decide) ?_
  refine lv_iload_n hx hb dX9_add_3 rfl (lv_at hl 0 rfl) ?_
  refine lv_if_lt (tgt := 46) hx hb dX9_add_4 (by decide) (fun c_25 => ?_) (fun c_25 => absurd (by decide) c_25)
  have hP9 := hP.sub (ws' := [(tp, .inr (9, [.ref tb, .int 16, .int 0, .int 0])), (tb, .inl (tbk, 400, .inl f_23))]) [0, 1] rfl
  have hD9 := hD.sub (ws' := [(tp, .inr (9, [.ref tb, .int 16, .int 0, .int 0])), (tb, .inl (tbk, 400, .inl f_23))]) [0, 1] (by decide) rfl
  have hK9 := hK.sub (tys' := [(tbk, .byte)]) [0] rfl
  refine W.widen (k := 0) (n := 0) (Nat.le_of_ble_eq_true rfl) (Nat.le_of_ble_eq_true rfl) ?_
  exact W.vret hx hb hr (fun t ht hW => ⟨⟨(), rfl, trivial, ⟨f_23, by rw [ht]; exact hP9, va_K.moved hW.alike hK9, hD9⟩⟩, hS.F ht⟩) hS.2.2 dX9_add_46
set_option maxHeartbeats 4000000 in
set_option maxRecDepth 100000 in
theorem c_add_16 (l : Launch) (dC : Nat → ClassId) (dI : Nat → Nat → Nat) (tp : Nat) (tb : Nat) (tbk : ClassId) (f : Nat → Int32) (a0 : Int32) (sz : Nat) : Met l yX9_add (ws_u yX9_add cX9_add 3 none) ({ frames := 0, cells := 0, slots := 0, locals := 0 }) (va_Pc [.ref tp, .int a0] (cPre (dC, dI) [(tbk, .byte)] [(tp, .inr (9, [.ref tb, .int 16, .int 0, .int 0])), (tb, .inl (tbk, 400, .inl f))] sz)) (va_Qv (fun _ : Unit => True) (fun _ t => ∃ (g : Nat → Int32), cPost (dC, dI) [(tbk, .byte)] [(tp, .inr (9, [.ref tb, .int 20, .int 0, .int 0])), (tb, .inl (tbk, 400, .inl g))] (va_A [(tp, .inr (9, [.ref tb, .int 16, .int 0, .int 0])), (tb, .inl (tbk, 400, .inl f))] sz) t) (va_A [(tp, .inr (9, [.ref tb, .int 16, .int 0, .int 0])), (tb, .inl (tbk, 400, .inl f))] sz)) 0 0 (va_A [(tp, .inr (9, [.ref tb, .int 16, .int 0, .int 0])), (tb, .inl (tbk, 400, .inl f))] sz) := by
  refine Met.ofW (cc := cX9_add) (maxL := 3) (ret := none) (by decide) rfl ?_
  intro p e s m args below meth c s₁ B hml hv
  obtain ⟨rfl, hsz, hP, hK, hD0, hE⟩ := hv
  have hx := B.exec
  have hb := B.bytes
  have hr := B.returns
  have hts0 := atoms_spec (ws := ws_u yX9_add cX9_add 3 none) B.pre
  have hts : ∀ w ∈ gT, w.before _ s = true := fun w h => hts0 w (List.mem_cons_of_mem _ h)
  have hown : s.vm.findClass RX9 = some m.cls := findClass_of_methodNamed B.named
  have hlocks := B.notSynchronized
  subst hsz
  have hD := hD0.self (sz := s.heap.size)
  generalize hAe : va_A [(tp, .inr (9, [.ref tb, .int 16, .int 0, .int 0])), (tb, .inl (tbk, 400, .inl f))] s.heap.size = A at hD ⊢
  have hA : ∀ q : Nat, s.heap.size ≤ q → A q := fun q h => by rw [← hAe]; exact Or.inr h
  have hS : va_S A s.heap s.heap [] := va_S.rf
  have hl := lv_entry ([.ref tp, .int a0]) (n := 3) (Nat.le_of_ble_eq_true rfl)
  rw [lg_entry_eq]
  generalize (lg_sl ([.ref tp, .int a0]) ++ List.replicate (3 - (lg_sl ([.ref tp, .int a0])).length) Slot.unset).toArray = ls at hl ⊢
  have hl : lv_has ls 3 [(0, .ref tp), (1, .int a0)] := hl
  have hP : va_P (dC, dI) vwCl [(tp, .inr (9, [.ref tb, .int 16, .int 0, .int 0])), (tb, .inl (tbk, 400, .inl f))] s.heap := hP
  try clear hAe
  refine lv_bipush (v := 24) hx hb dX9_add_0 (by decide) ?_
  refine lv_istore_n (lv' := [(2, .int 24), (0, .ref tp), (1, .int a0)]) hx hb dX9_add_2 rfl hl (by decide) rfl (fun ls hl => ?_)
  refine lv_iload_n hx hb dX9_add_3 rfl (lv_at hl 0 rfl) ?_
  refine lv_if_lt (tgt := 46) hx hb dX9_add_4 (by decide) (fun c_1 => absurd c_1 (by decide)) (fun c_1 => ?_)
  refine lv_aload_n hx hb dX9_add_7 rfl (lv_at hl 1 rfl) ?_
  refine va_get (D := (dC, dI)) (ci := 9) (v := .int 16) (C := RX9) (T := TX9) (N := 4) hx hb hts iX9 hown hK hP 0 rfl rfl 1 (by decide) (hts _ tw_37) (fun _ h9 => h9) rfl dX9_add_8 ?_
  refine lv_sipush (v := 400) hx hb dX9_add_11 (by decide) ?_
  refine lv_icmp_ge (tgt := 46) hx hb dX9_add_14 (by decide) (fun c_2 => absurd c_2 (by decide)) (fun c_2 => ?_)
  refine lv_aload_n hx hb dX9_add_17 rfl (lv_at hl 1 rfl) ?_
  refine va_get (D := (dC, dI)) (ci := 9) (v := .ref tb) (C := RX9) (T := TX9) (N := 4) hx hb hts iX9 hown hK hP 0 rfl rfl 0 (by decide) (hts _ tw_36) (fun _ h9 => h9) rfl dX9_add_18 ?_
  refine lv_aload_n hx hb dX9_add_21 rfl (lv_at hl 1 rfl) ?_
  refine va_get (D := (dC, dI)) (ci := 9) (v := .int 16) (C := RX9) (T := TX9) (N := 4) hx hb hts iX9 hown hK hP 0 rfl rfl 1 (by decide) (hts _ tw_37) (fun _ h9 => h9) rfl dX9_add_22 ?_
  refine lv_iload_n hx hb dX9_add_25 rfl (lv_at hl 2 rfl) ?_
  refine lv_iload_n hx hb dX9_add_26 rfl (lv_at hl 0 rfl) ?_
  refine lv_ishr hx hb dX9_add_27 ?_
  refine lv_topi (fun x_3 ex_3 => ?_)
  obtain ⟨x_4, ex_4⟩ : ∃ y : Int32, x_3.toInt8.toInt32 = y := ⟨_, rfl⟩
  refine lv_i2b (v := x_4) hx hb dX9_add_28 ex_4 ?_
  refine va_bast hx hb hK hP hD hS 1 0 rfl rfl (show vp_in 16 400 from (by decide : ¬ ((16 : Int32) < 0 ∨ 400 ≤ (16 : Int32).toNatClampNeg))) dX9_add_29 (fun H locs hP hD hS => ?_)
  have hP : va_P (dC, dI) vwCl [(tp, .inr (9, [.ref tb, .int 16, .int 0, .int 0])), (tb, .inl (tbk, 400, .inl (upd f (Int32.toNatClampNeg 16) (vp_nar .byte x_4))))] H := hP
  have hD : va_D A [(tp, .inr (9, [.ref tb, .int 16, .int 0, .int 0])), (tb, .inl (tbk, 400, .inl (upd f (Int32.toNatClampNeg 16) (vp_nar .byte x_4))))] := hD
  generalize upd f (Int32.toNatClampNeg 16) (vp_nar .byte x_4) = f_5 at hP hD
  refine lv_aload_n hx hb dX9_add_30 rfl (lv_at hl 1 rfl) ?_
  refine lv_dup hx hb dX9_add_31 rfl ?_
  refine va_get (D := (dC, dI)) (ci := 9) (v := .int 16) (C := RX9) (T := TX9) (N := 4) hx hb hts iX9 hown hK hP 0 rfl rfl 1 (by decide) (hts _ tw_37) (fun _ h9 => h9) rfl dX9_add_32 ?_
  refine lv_iconst (v := 1) hx hb dX9_add_35 (by decide) ?_
  refine lv_iadd hx hb dX9_add_36 ?_
  refine lv_topi (fun x_6 ex_6 => ?_)
  obtain rfl : x_6 = 17 := ex_6.trans (by decide)
  refine va_put (D := (dC, dI)) (ci := 9) (v := .int 17) (C := RX9) (T := TX9) (N := 4) hx hb hts iX9 tyX9 tyX9_ok nmX9 hown hK hP hD hS 0 rfl rfl 1 (by decide) (hts _ tw_37) (fun _ h9 => h9) rfl (tyX9_ok 1 (by decide)) rfl rfl (Nat.le_of_ble_eq_true rfl) dX9_add_37 (fun H locs hP hD hS => ?_)
  have hP : va_P (dC, dI) vwCl [(tp, .inr (9, [.ref tb, .int 17, .int 0, .int 0])), (tb, .inl (tbk, 400, .inl f_5))] H := hP
  have hD : va_D A [(tp, .inr (9, [.ref tb, .int 17, .int 0, .int 0])), (tb, .inl (tbk, 400, .inl f_5))] := hD
  refine lv_iinc (v := 16) (lv' := [(2, .int 16), (0, .ref tp), (1, .int a0)]) hx hb dX9_add_40 hl (k := 0) rfl (by decide) (by decide) rfl (fun ls hl => ?_)
  refine lv_goto (tgt := 3) hx hb dX9_add_43 (by decide) ?_
  refine lv_iload_n hx hb dX9_add_3 rfl (lv_at hl 0 rfl) ?_
  refine lv_if_lt (tgt := 46) hx hb dX9_add_4 (by decide) (fun c_7 => absurd c_7 (by decide)) (fun c_7 => ?_)
  refine lv_aload_n hx hb dX9_add_7 rfl (lv_at hl 1 rfl) ?_
  refine va_get (D := (dC, dI)) (ci := 9) (v := .int 17) (C := RX9) (T := TX9) (N := 4) hx hb hts iX9 hown hK hP 0 rfl rfl 1 (by decide) (hts _ tw_37) (fun _ h9 => h9) rfl dX9_add_8 ?_
  refine lv_sipush (v := 400) hx hb dX9_add_11 (by decide) ?_
  refine lv_icmp_ge (tgt := 46) hx hb dX9_add_14 (by decide) (fun c_8 => absurd c_8 (by decide)) (fun c_8 => ?_)
  refine lv_aload_n hx hb dX9_add_17 rfl (lv_at hl 1 rfl) ?_
  refine va_get (D := (dC, dI)) (ci := 9) (v := .ref tb) (C := RX9) (T := TX9) (N := 4) hx hb hts iX9 hown hK hP 0 rfl rfl 0 (by decide) (hts _ tw_36) (fun _ h9 => h9) rfl dX9_add_18 ?_
  refine lv_aload_n hx hb dX9_add_21 rfl (lv_at hl 1 rfl) ?_
  refine va_get (D := (dC, dI)) (ci := 9) (v := .int 17) (C := RX9) (T := TX9) (N := 4) hx hb hts iX9 hown hK hP 0 rfl rfl 1 (by decide) (hts _ tw_37) (fun _ h9 => h9) rfl dX9_add_22 ?_
  refine lv_iload_n hx hb dX9_add_25 rfl (lv_at hl 2 rfl) ?_
  refine lv_iload_n hx hb dX9_add_26 rfl (lv_at hl 0 rfl) ?_
  refine lv_ishr hx hb dX9_add_27 ?_
  refine lv_topi (fun x_9 ex_9 => ?_)
  obtain ⟨x_10, ex_10⟩ : ∃ y : Int32, x_9.toInt8.toInt32 = y := ⟨_, rfl⟩
  refine lv_i2b (v := x_10) hx hb dX9_add_28 ex_10 ?_
  refine va_bast hx hb hK hP hD hS 1 0 rfl rfl (show vp_in 17 400 from (by decide : ¬ ((17 : Int32) < 0 ∨ 400 ≤ (17 : Int32).toNatClampNeg))) dX9_add_29 (fun H locs hP hD hS => ?_)
  have hP : va_P (dC, dI) vwCl [(tp, .inr (9, [.ref tb, .int 17, .int 0, .int 0])), (tb, .inl (tbk, 400, .inl (upd f_5 (Int32.toNatClampNeg 17) (vp_nar .byte x_10))))] H := hP
  have hD : va_D A [(tp, .inr (9, [.ref tb, .int 17, .int 0, .int 0])), (tb, .inl (tbk, 400, .inl (upd f_5 (Int32.toNatClampNeg 17) (vp_nar .byte x_10))))] := hD
  generalize upd f_5 (Int32.toNatClampNeg 17) (vp_nar .byte x_10) = f_11 at hP hD
  refine lv_aload_n hx hb dX9_add_30 rfl (lv_at hl 1 rfl) ?_
  refine lv_dup hx hb dX9_add_31 rfl ?_
  refine va_get (D := (dC, dI)) (ci := 9) (v := .int 17) (C := RX9) (T := TX9) (N := 4) hx hb hts iX9 hown hK hP 0 rfl rfl 1 (by decide) (hts _ tw_37) (fun _ h9 => h9) rfl dX9_add_32 ?_
  refine lv_iconst (v := 1) hx hb dX9_add_35 (by decide) ?_
  refine lv_iadd hx hb dX9_add_36 ?_
  refine lv_topi (fun x_12 ex_12 => ?_)
  obtain rfl : x_12 = 18 := ex_12.trans (by decide)
  refine va_put (D := (dC, dI)) (ci := 9) (v := .int 18) (C := RX9) (T := TX9) (N := 4) hx hb hts iX9 tyX9 tyX9_ok nmX9 hown hK hP hD hS 0 rfl rfl 1 (by decide) (hts _ tw_37) (fun _ h9 => h9) rfl (tyX9_ok 1 (by decide)) rfl rfl (Nat.le_of_ble_eq_true rfl) dX9_add_37 (fun H locs hP hD hS => ?_)
  have hP : va_P (dC, dI) vwCl [(tp, .inr (9, [.ref tb, .int 18, .int 0, .int 0])), (tb, .inl (tbk, 400, .inl f_11))] H := hP
  have hD : va_D A [(tp, .inr (9, [.ref tb, .int 18, .int 0, .int 0])), (tb, .inl (tbk, 400, .inl f_11))] := hD
  refine lv_iinc (v := 8) (lv' := [(2, .int 8), (0, .ref tp), (1, .int a0)]) hx hb dX9_add_40 hl (k := 0) rfl (by decide) (by decide) rfl (fun ls hl => ?_)
  refine lv_goto (tgt := 3) hx hb dX9_add_43 (by decide) ?_
  refine lv_iload_n hx hb dX9_add_3 rfl (lv_at hl 0 rfl) ?_
  refine lv_if_lt (tgt := 46) hx hb dX9_add_4 (by decide) (fun c_13 => absurd c_13 (by decide)) (fun c_13 => ?_)
  refine lv_aload_n hx hb dX9_add_7 rfl (lv_at hl 1 rfl) ?_
  refine va_get (D := (dC, dI)) (ci := 9) (v := .int 18) (C := RX9) (T := TX9) (N := 4) hx hb hts iX9 hown hK hP 0 rfl rfl 1 (by decide) (hts _ tw_37) (fun _ h9 => h9) rfl dX9_add_8 ?_
  refine lv_sipush (v := 400) hx hb dX9_add_11 (by decide) ?_
  refine lv_icmp_ge (tgt := 46) hx hb dX9_add_14 (by decide) (fun c_14 => absurd c_14 (by decide)) (fun c_14 => ?_)
  refine lv_aload_n hx hb dX9_add_17 rfl (lv_at hl 1 rfl) ?_
  refine va_get (D := (dC, dI)) (ci := 9) (v := .ref tb) (C := RX9) (T := TX9) (N := 4) hx hb hts iX9 hown hK hP 0 rfl rfl 0 (by decide) (hts _ tw_36) (fun _ h9 => h9) rfl dX9_add_18 ?_
  refine lv_aload_n hx hb dX9_add_21 rfl (lv_at hl 1 rfl) ?_
  refine va_get (D := (dC, dI)) (ci := 9) (v := .int 18) (C := RX9) (T := TX9) (N := 4) hx hb hts iX9 hown hK hP 0 rfl rfl 1 (by decide) (hts _ tw_37) (fun _ h9 => h9) rfl dX9_add_22 ?_
  refine lv_iload_n hx hb dX9_add_25 rfl (lv_at hl 2 rfl) ?_
  refine lv_iload_n hx hb dX9_add_26 rfl (lv_at hl 0 rfl) ?_
  refine lv_ishr hx hb dX9_add_27 ?_
  refine lv_topi (fun x_15 ex_15 => ?_)
  obtain ⟨x_16, ex_16⟩ : ∃ y : Int32, x_15.toInt8.toInt32 = y := ⟨_, rfl⟩
  refine lv_i2b (v := x_16) hx hb dX9_add_28 ex_16 ?_
  refine va_bast hx hb hK hP hD hS 1 0 rfl rfl (show vp_in 18 400 from (by decide : ¬ ((18 : Int32) < 0 ∨ 400 ≤ (18 : Int32).toNatClampNeg))) dX9_add_29 (fun H locs hP hD hS => ?_)
  have hP : va_P (dC, dI) vwCl [(tp, .inr (9, [.ref tb, .int 18, .int 0, .int 0])), (tb, .inl (tbk, 400, .inl (upd f_11 (Int32.toNatClampNeg 18) (vp_nar .byte x_16))))] H := hP
  have hD : va_D A [(tp, .inr (9, [.ref tb, .int 18, .int 0, .int 0])), (tb, .inl (tbk, 400, .inl (upd f_11 (Int32.toNatClampNeg 18) (vp_nar .byte x_16))))] := hD
  generalize upd f_11 (Int32.toNatClampNeg 18) (vp_nar .byte x_16) = f_17 at hP hD
  refine lv_aload_n hx hb dX9_add_30 rfl (lv_at hl 1 rfl) ?_
  refine lv_dup hx hb dX9_add_31 rfl ?_
  refine va_get (D := (dC, dI)) (ci := 9) (v := .int 18) (C := RX9) (T := TX9) (N := 4) hx hb hts iX9 hown hK hP 0 rfl rfl 1 (by decide) (hts _ tw_37) (fun _ h9 => h9) rfl dX9_add_32 ?_
  refine lv_iconst (v := 1) hx hb dX9_add_35 (by decide) ?_
  refine lv_iadd hx hb dX9_add_36 ?_
  refine lv_topi (fun x_18 ex_18 => ?_)
  obtain rfl : x_18 = 19 := ex_18.trans (by decide)
  refine va_put (D := (dC, dI)) (ci := 9) (v := .int 19) (C := RX9) (T := TX9) (N := 4) hx hb hts iX9 tyX9 tyX9_ok nmX9 hown hK hP hD hS 0 rfl rfl 1 (by decide) (hts _ tw_37) (fun _ h9 => h9) rfl (tyX9_ok 1 (by decide)) rfl rfl (Nat.le_of_ble_eq_true rfl) dX9_add_37 (fun H locs hP hD hS => ?_)
  have hP : va_P (dC, dI) vwCl [(tp, .inr (9, [.ref tb, .int 19, .int 0, .int 0])), (tb, .inl (tbk, 400, .inl f_17))] H := hP
  have hD : va_D A [(tp, .inr (9, [.ref tb, .int 19, .int 0, .int 0])), (tb, .inl (tbk, 400, .inl f_17))] := hD
  refine lv_iinc (v := 0) (lv' := [(2, .int 0), (0, .ref tp), (1, .int a0)]) hx hb dX9_add_40 hl (k := 0) rfl (by decide) (by decide) rfl (fun ls hl => ?_)
  refine lv_goto (tgt := 3) hx hb dX9_add_43 (by decide) ?_
  refine lv_iload_n hx hb dX9_add_3 rfl (lv_at hl 0 rfl) ?_
  refine lv_if_lt (tgt := 46) hx hb dX9_add_4 (by decide) (fun c_19 => absurd c_19 (by decide)) (fun c_19 => ?_)
  refine lv_aload_n hx hb dX9_add_7 rfl (lv_at hl 1 rfl) ?_
  refine va_get (D := (dC, dI)) (ci := 9) (v := .int 19) (C := RX9) (T := TX9) (N := 4) hx hb hts iX9 hown hK hP 0 rfl rfl 1 (by decide) (hts _ tw_37) (fun _ h9 => h9) rfl dX9_add_8 ?_
  refine lv_sipush (v := 400) hx hb dX9_add_11 (by decide) ?_
  refine lv_icmp_ge (tgt := 46) hx hb dX9_add_14 (by decide) (fun c_20 => absurd c_20 (by decide)) (fun c_20 => ?_)
  refine lv_aload_n hx hb dX9_add_17 rfl (lv_at hl 1 rfl) ?_
  refine va_get (D := (dC, dI)) (ci := 9) (v := .ref tb) (C := RX9) (T := TX9) (N := 4) hx hb hts iX9 hown hK hP 0 rfl rfl 0 (by decide) (hts _ tw_36) (fun _ h9 => h9) rfl dX9_add_18 ?_
  refine lv_aload_n hx hb dX9_add_21 rfl (lv_at hl 1 rfl) ?_
  refine va_get (D := (dC, dI)) (ci := 9) (v := .int 19) (C := RX9) (T := TX9) (N := 4) hx hb hts iX9 hown hK hP 0 rfl rfl 1 (by decide) (hts _ tw_37) (fun _ h9 => h9) rfl dX9_add_22 ?_
  refine lv_iload_n hx hb dX9_add_25 rfl (lv_at hl 2 rfl) ?_
  refine lv_iload_n hx hb dX9_add_26 rfl (lv_at hl 0 rfl) ?_
  refine lv_ishr hx hb dX9_add_27 ?_
  refine lv_topi (fun x_21 ex_21 => ?_)
  obtain ⟨x_22, ex_22⟩ : ∃ y : Int32, x_21.toInt8.toInt32 = y := ⟨_, rfl⟩
  refine lv_i2b (v := x_22) hx hb dX9_add_28 ex_22 ?_
  refine va_bast hx hb hK hP hD hS 1 0 rfl rfl (show vp_in 19 400 from (by decide : ¬ ((19 : Int32) < 0 ∨ 400 ≤ (19 : Int32).toNatClampNeg))) dX9_add_29 (fun H locs hP hD hS => ?_)
  have hP : va_P (dC, dI) vwCl [(tp, .inr (9, [.ref tb, .int 19, .int 0, .int 0])), (tb, .inl (tbk, 400, .inl (upd f_17 (Int32.toNatClampNeg 19) (vp_nar .byte x_22))))] H := hP
  have hD : va_D A [(tp, .inr (9, [.ref tb, .int 19, .int 0, .int 0])), (tb, .inl (tbk, 400, .inl (upd f_17 (Int32.toNatClampNeg 19) (vp_nar .byte x_22))))] := hD
  generalize upd f_17 (Int32.toNatClampNeg 19) (vp_nar .byte x_22) = f_23 at hP hD
  refine lv_aload_n hx hb dX9_add_30 rfl (lv_at hl 1 rfl) ?_
  refine lv_dup hx hb dX9_add_31 rfl ?_
  refine va_get (D := (dC, dI)) (ci := 9) (v := .int 19) (C := RX9) (T := TX9) (N := 4) hx hb hts iX9 hown hK hP 0 rfl rfl 1 (by decide) (hts _ tw_37) (fun _ h9 => h9) rfl dX9_add_32 ?_
  refine lv_iconst (v := 1) hx hb dX9_add_35 (by decide) ?_
  refine lv_iadd hx hb dX9_add_36 ?_
  refine lv_topi (fun x_24 ex_24 => ?_)
  obtain rfl : x_24 = 20 := ex_24.trans (by decide)
  refine va_put (D := (dC, dI)) (ci := 9) (v := .int 20) (C := RX9) (T := TX9) (N := 4) hx hb hts iX9 tyX9 tyX9_ok nmX9 hown hK hP hD hS 0 rfl rfl 1 (by decide) (hts _ tw_37) (fun _ h9 => h9) rfl (tyX9_ok 1 (by decide)) rfl rfl (Nat.le_of_ble_eq_true rfl) dX9_add_37 (fun H locs hP hD hS => ?_)
  have hP : va_P (dC, dI) vwCl [(tp, .inr (9, [.ref tb, .int 20, .int 0, .int 0])), (tb, .inl (tbk, 400, .inl f_23))] H := hP
  have hD : va_D A [(tp, .inr (9, [.ref tb, .int 20, .int 0, .int 0])), (tb, .inl (tbk, 400, .inl f_23))] := hD
  refine lv_iinc (v := (-8)) (lv' := [(2, .int (-8)), (0, .ref tp), (1, .int a0)]) hx hb dX9_add_40 hl (k := 0) rfl (by decide) (by decide) rfl (fun ls hl => ?_)
  refine lv_goto (tgt := 3) hx hb dX9_add_43 (by decide) ?_
  refine lv_iload_n hx hb dX9_add_3 rfl (lv_at hl 0 rfl) ?_
  refine lv_if_lt (tgt := 46) hx hb dX9_add_4 (by decide) (fun c_25 => ?_) (fun c_25 => absurd (by decide) c_25)
  have hP9 := hP.sub (ws' := [(tp, .inr (9, [.ref tb, .int 20, .int 0, .int 0])), (tb, .inl (tbk, 400, .inl f_23))]) [0, 1] rfl
  have hD9 := hD.sub (ws' := [(tp, .inr (9, [.ref tb, .int 20, .int 0, .int 0])), (tb, .inl (tbk, 400, .inl f_23))]) [0, 1] (by decide) rfl
  have hK9 := hK.sub (tys' := [(tbk, .byte)]) [0] rfl
  refine W.widen (k := 0) (n := 0) (Nat.le_of_ble_eq_true rfl) (Nat.le_of_ble_eq_true rfl) ?_
  exact W.vret hx hb hr (fun t ht hW => ⟨⟨(), rfl, trivial, ⟨f_23, by rw [ht]; exact hP9, va_K.moved hW.alike hK9, hD9⟩⟩, hS.F ht⟩) hS.2.2 dX9_add_46
set_option maxHeartbeats 4000000 in
set_option maxRecDepth 100000 in
theorem c_feed (l : Launch) (dC : Nat → ClassId) (dI : Nat → Nat → Nat) (h0 : Nat) (tp : Nat) (cr : Nat) (rr : Nat) (ra : Nat) (nw : Nat) (im : Nat) (ps : Nat) (po : Nat) (dy : Nat) (cn : Nat) (tr : Nat) (tb : Nat) (tbk : ClassId) (f : Nat → Int32) (a0 : Int32) (a1 : Int32) (a2 : Int32) (a3 : Int32) (a4 : Int32) (sz : Nat) : Met l yX11_feed (ws_u yX11_feed cX11_feed 6 (some .int)) ({ frames := 1, cells := 0, slots := 0, locals := 22 }) (va_Pc [.ref h0, .int a0, .int a1, .int a2, .int a3, .int a4] (cPre (dC, dI) [(tbk, .byte)] [(h0, .inr (11, [.ref tp, .ref cr, .ref rr, .ref ra, .int 0, .ref nw, .ref im, .ref ps, .ref po, .ref dy, .ref cn, .ref tr])), (tp, .inr (9, [.ref tb, .int 0, .int 0, .int 0])), (tb, .inl (tbk, 400, .inl f))] sz)) (va_Qi (fun (r : Int32) (_ : Unit) => r = 20) (fun _ _ => True) (va_A [(h0, .inr (11, [.ref tp, .ref cr, .ref rr, .ref ra, .int 0, .ref nw, .ref im, .ref ps, .ref po, .ref dy, .ref cn, .ref tr])), (tp, .inr (9, [.ref tb, .int 0, .int 0, .int 0])), (tb, .inl (tbk, 400, .inl f))] sz)) 0 0 (va_A [(h0, .inr (11, [.ref tp, .ref cr, .ref rr, .ref ra, .int 0, .ref nw, .ref im, .ref ps, .ref po, .ref dy, .ref cn, .ref tr])), (tp, .inr (9, [.ref tb, .int 0, .int 0, .int 0])), (tb, .inl (tbk, 400, .inl f))] sz) := by
  refine Met.ofW (cc := cX11_feed) (maxL := 6) (ret := (some .int)) (by decide) rfl ?_
  intro p e s m args below meth c s₁ B hml hv
  obtain ⟨rfl, hsz, hP, hK, hD0, hE⟩ := hv
  have hx := B.exec
  have hb := B.bytes
  have hr := B.returns
  have hts0 := atoms_spec (ws := ws_u yX11_feed cX11_feed 6 (some .int)) B.pre
  have hts : ∀ w ∈ gT, w.before _ s = true := fun w h => hts0 w (List.mem_cons_of_mem _ h)
  have hown : s.vm.findClass RX11 = some m.cls := findClass_of_methodNamed B.named
  have hlocks := B.notSynchronized
  subst hsz
  have hD := hD0.self (sz := s.heap.size)
  generalize hAe : va_A [(h0, .inr (11, [.ref tp, .ref cr, .ref rr, .ref ra, .int 0, .ref nw, .ref im, .ref ps, .ref po, .ref dy, .ref cn, .ref tr])), (tp, .inr (9, [.ref tb, .int 0, .int 0, .int 0])), (tb, .inl (tbk, 400, .inl f))] s.heap.size = A at hD ⊢
  have hA : ∀ q : Nat, s.heap.size ≤ q → A q := fun q h => by rw [← hAe]; exact Or.inr h
  have hS : va_S A s.heap s.heap [] := va_S.rf
  have hl := lv_entry ([.ref h0, .int a0, .int a1, .int a2, .int a3, .int a4]) (n := 6) (Nat.le_of_ble_eq_true rfl)
  rw [lg_entry_eq]
  generalize (lg_sl ([.ref h0, .int a0, .int a1, .int a2, .int a3, .int a4]) ++ List.replicate (6 - (lg_sl ([.ref h0, .int a0, .int a1, .int a2, .int a3, .int a4])).length) Slot.unset).toArray = ls at hl ⊢
  have hl : lv_has ls 6 [(0, .ref h0), (1, .int a0), (2, .int a1), (3, .int a2), (4, .int a3), (5, .int a4)] := hl
  have hP : va_P (dC, dI) vwCl [(h0, .inr (11, [.ref tp, .ref cr, .ref rr, .ref ra, .int 0, .ref nw, .ref im, .ref ps, .ref po, .ref dy, .ref cn, .ref tr])), (tp, .inr (9, [.ref tb, .int 0, .int 0, .int 0])), (tb, .inl (tbk, 400, .inl f))] s.heap := hP
  try clear hAe
  refine lv_aload_n hx hb dX11_feed_0 rfl (lv_at hl 0 rfl) ?_
  refine va_get (D := (dC, dI)) (ci := 11) (v := .ref tp) (C := RX11) (T := TX11) (N := 12) hx hb hts iX11 hown hK hP 0 rfl rfl 0 (by decide) (hts _ tw_423) (fun _ h9 => h9) rfl dX11_feed_1 ?_
  refine lv_bipush (v := 20) hx hb dX11_feed_4 (by decide) ?_
  have hPc := hP.sub (ws' := [(tp, .inr (9, [.ref tb, .int 0, .int 0, .int 0]))]) [1] rfl
  have hDc := hD.sub (ws' := [(tp, .inr (9, [.ref tb, .int 0, .int 0, .int 0]))]) [1] (by decide) rfl
  have hKc := hK.sub (tys' := []) [] rfl
  have hFc := va_free (wc := [(tp, .inr (9, [.ref tb, .int 0, .int 0, .int 0]))]) hD hS hA [1] rfl
  refine va_calli (va_runV (As := [.int 20]) (rest := []) ⟨hx, hb, hml, hown, hts⟩ (c_hasRoom l dC dI tp tb  s.heap.size) (cwV 1 hts (gUV tw_464 tw_465 tw_466 tw_2 tw_467) rfl rfl rfl (by decide +kernel) ⟨(Nat.le_of_ble_eq_true rfl), (Nat.le_of_ble_eq_true rfl)⟩) ⟨cPre.blind, va_recv hKc hPc (ci := 9) (q0 := 0) rfl rfl, cPre.use hPc hKc hDc hE⟩ rfl rfl hl.1 rfl (lv_room (Nat.le_of_ble_eq_true rfl)) dX11_feed_6 ⟨(Nat.le_of_ble_eq_true rfl), (Nat.le_of_ble_eq_true rfl)⟩) hS (fun q _ h => hFc q h) hFc (fun r_1 u t H1 locs ht hvm hw hB hz1 hk1 hS => ?_)
  obtain ⟨hP1, hK1, hD1⟩ := hB
  rw [ht] at hP1
  obtain ⟨hP, hD⟩ := va_join (wr := [(h0, .inr (11, [.ref tp, .ref cr, .ref rr, .ref ra, .int 0, .ref nw, .ref im, .ref ps, .ref po, .ref dy, .ref cn, .ref tr])), (tb, .inl (tbk, 400, .inl f))]) (w1 := [(tp, .inr (9, [.ref tb, .int 0, .int 0, .int 0]))]) hP hD [1] [0, 2] rfl rfl (by decide) (by decide) hk1 hFc hP1 hD1
  generalize H1 = H at hP hS ⊢
  have hP : va_P (dC, dI) vwCl [(h0, .inr (11, [.ref tp, .ref cr, .ref rr, .ref ra, .int 0, .ref nw, .ref im, .ref ps, .ref po, .ref dy, .ref cn, .ref tr])), (tb, .inl (tbk, 400, .inl f)), (tp, .inr (9, [.ref tb, .int 0, .int 0, .int 0]))] H := hP
  have hD : va_D A [(h0, .inr (11, [.ref tp, .ref cr, .ref rr, .ref ra, .int 0, .ref nw, .ref im, .ref ps, .ref po, .ref dy, .ref cn, .ref tr])), (tb, .inl (tbk, 400, .inl f)), (tp, .inr (9, [.ref tb, .int 0, .int 0, .int 0]))] := hD
  obtain rfl : r_1 = 1 := hw
  refine lv_if_ne (tgt := 14) hx hb dX11_feed_9 (by decide) (fun c_2 => ?_) (fun c_2 => absurd c_2 (by decide))
  refine lv_aload_n hx hb dX11_feed_14 rfl (lv_at hl 0 rfl) ?_
  refine va_get (D := (dC, dI)) (ci := 11) (v := .ref tp) (C := RX11) (T := TX11) (N := 12) hx hb hts iX11 hown hK hP 0 rfl rfl 0 (by decide) (hts _ tw_423) (fun _ h9 => h9) rfl dX11_feed_15 ?_
  refine lv_iload_n hx hb dX11_feed_18 rfl (lv_at hl 1 rfl) ?_
  have hPc := hP.sub (ws' := [(tp, .inr (9, [.ref tb, .int 0, .int 0, .int 0])), (tb, .inl (tbk, 400, .inl f))]) [2, 1] rfl
  have hDc := hD.sub (ws' := [(tp, .inr (9, [.ref tb, .int 0, .int 0, .int 0])), (tb, .inl (tbk, 400, .inl f))]) [2, 1] (by decide) rfl
  have hKc := hK.sub (tys' := [(tbk, .byte)]) [0] rfl
  have hFc := va_free (wc := [(tp, .inr (9, [.ref tb, .int 0, .int 0, .int 0])), (tb, .inl (tbk, 400, .inl f))]) hD hS hA [2, 1] rfl
  refine va_callv (va_runV (As := [.int a0]) (rest := []) ⟨hx, hb, hml, hown, hts⟩ (c_add_0 l dC dI tp tb tbk f a0  H.size) (cwV 1 hts (gUV tw_468 tw_469 tw_470 tw_2 tw_471) rfl rfl rfl (by decide +kernel) ⟨(Nat.le_of_ble_eq_true rfl), (Nat.le_of_ble_eq_true rfl)⟩) ⟨cPre.blind, va_recv hKc hPc (ci := 9) (q0 := 0) rfl rfl, cPre.use hPc hKc hDc hE⟩ rfl rfl hl.1 rfl (lv_room (Nat.le_of_ble_eq_true rfl)) dX11_feed_19 ⟨(Nat.le_of_ble_eq_true rfl), (Nat.le_of_ble_eq_true rfl)⟩) hS (fun q _ h => hFc q h) hFc (fun u t H1 locs ht hvm hw hB hz1 hk1 hS => ?_)
  obtain ⟨g_4, hP1, hK1, hD1⟩ := hB
  rw [ht] at hP1
  obtain ⟨hP, hD⟩ := va_join (wr := [(h0, .inr (11, [.ref tp, .ref cr, .ref rr, .ref ra, .int 0, .ref nw, .ref im, .ref ps, .ref po, .ref dy, .ref cn, .ref tr]))]) (w1 := [(tp, .inr (9, [.ref tb, .int 4, .int 0, .int 0])), (tb, .inl (tbk, 400, .inl g_4))]) hP hD [2, 1] [0] rfl rfl (by decide) (by decide) hk1 hFc hP1 hD1
  generalize H1 = H at hP hS ⊢
  have hP : va_P (dC, dI) vwCl [(h0, .inr (11, [.ref tp, .ref cr, .ref rr, .ref ra, .int 0, .ref nw, .ref im, .ref ps, .ref po, .ref dy, .ref cn, .ref tr])), (tp, .inr (9, [.ref tb, .int 4, .int 0, .int 0])), (tb, .inl (tbk, 400, .inl g_4))] H := hP
  have hD : va_D A [(h0, .inr (11, [.ref tp, .ref cr, .ref rr, .ref ra, .int 0, .ref nw, .ref im, .ref ps, .ref po, .ref dy, .ref cn, .ref tr])), (tp, .inr (9, [.ref tb, .int 4, .int 0, .int 0])), (tb, .inl (tbk, 400, .inl g_4))] := hD
  refine lv_aload_n hx hb dX11_feed_22 rfl (lv_at hl 0 rfl) ?_
  refine va_get (D := (dC, dI)) (ci := 11) (v := .ref tp) (C := RX11) (T := TX11) (N := 12) hx hb hts iX11 hown hK hP 0 rfl rfl 0 (by decide) (hts _ tw_423) (fun _ h9 => h9) rfl dX11_feed_23 ?_
  refine lv_iload_n hx hb dX11_feed_26 rfl (lv_at hl 2 rfl) ?_
  have hPc := hP.sub (ws' := [(tp, .inr (9, [.ref tb, .int 4, .int 0, .int 0])), (tb, .inl (tbk, 400, .inl g_4))]) [1, 2] rfl
  have hDc := hD.sub (ws' := [(tp, .inr (9, [.ref tb, .int 4, .int 0, .int 0])), (tb, .inl (tbk, 400, .inl g_4))]) [1, 2] (by decide) rfl
  have hKc := hK.sub (tys' := [(tbk, .byte)]) [0] rfl
  have hFc := va_free (wc := [(tp, .inr (9, [.ref tb, .int 4, .int 0, .int 0])), (tb, .inl (tbk, 400, .inl g_4))]) hD hS hA [1, 2] rfl
  refine va_callv (va_runV (As := [.int a1]) (rest := []) ⟨hx, hb, hml, hown, hts⟩ (c_add_4 l dC dI tp tb tbk g_4 a1  H.size) (cwV 1 hts (gUV tw_468 tw_469 tw_470 tw_2 tw_471) rfl rfl rfl (by decide +kernel) ⟨(Nat.le_of_ble_eq_true rfl), (Nat.le_of_ble_eq_true rfl)⟩) ⟨cPre.blind, va_recv hKc hPc (ci := 9) (q0 := 0) rfl rfl, cPre.use hPc hKc hDc hE⟩ rfl rfl hl.1 rfl (lv_room (Nat.le_of_ble_eq_true rfl)) dX11_feed_27 ⟨(Nat.le_of_ble_eq_true rfl), (Nat.le_of_ble_eq_true rfl)⟩) hS (fun q _ h => hFc q h) hFc (fun u t H1 locs ht hvm hw hB hz1 hk1 hS => ?_)
  obtain ⟨g_6, hP1, hK1, hD1⟩ := hB
  rw [ht] at hP1
  obtain ⟨hP, hD⟩ := va_join (wr := [(h0, .inr (11, [.ref tp, .ref cr, .ref rr, .ref ra, .int 0, .ref nw, .ref im, .ref ps, .ref po, .ref dy, .ref cn, .ref tr]))]) (w1 := [(tp, .inr (9, [.ref tb, .int 8, .int 0, .int 0])), (tb, .inl (tbk, 400, .inl g_6))]) hP hD [1, 2] [0] rfl rfl (by decide) (by decide) hk1 hFc hP1 hD1
  generalize H1 = H at hP hS ⊢
  have hP : va_P (dC, dI) vwCl [(h0, .inr (11, [.ref tp, .ref cr, .ref rr, .ref ra, .int 0, .ref nw, .ref im, .ref ps, .ref po, .ref dy, .ref cn, .ref tr])), (tp, .inr (9, [.ref tb, .int 8, .int 0, .int 0])), (tb, .inl (tbk, 400, .inl g_6))] H := hP
  have hD : va_D A [(h0, .inr (11, [.ref tp, .ref cr, .ref rr, .ref ra, .int 0, .ref nw, .ref im, .ref ps, .ref po, .ref dy, .ref cn, .ref tr])), (tp, .inr (9, [.ref tb, .int 8, .int 0, .int 0])), (tb, .inl (tbk, 400, .inl g_6))] := hD
  refine lv_aload_n hx hb dX11_feed_30 rfl (lv_at hl 0 rfl) ?_
  refine va_get (D := (dC, dI)) (ci := 11) (v := .ref tp) (C := RX11) (T := TX11) (N := 12) hx hb hts iX11 hown hK hP 0 rfl rfl 0 (by decide) (hts _ tw_423) (fun _ h9 => h9) rfl dX11_feed_31 ?_
  refine lv_iload_n hx hb dX11_feed_34 rfl (lv_at hl 3 rfl) ?_
  have hPc := hP.sub (ws' := [(tp, .inr (9, [.ref tb, .int 8, .int 0, .int 0])), (tb, .inl (tbk, 400, .inl g_6))]) [1, 2] rfl
  have hDc := hD.sub (ws' := [(tp, .inr (9, [.ref tb, .int 8, .int 0, .int 0])), (tb, .inl (tbk, 400, .inl g_6))]) [1, 2] (by decide) rfl
  have hKc := hK.sub (tys' := [(tbk, .byte)]) [0] rfl
  have hFc := va_free (wc := [(tp, .inr (9, [.ref tb, .int 8, .int 0, .int 0])), (tb, .inl (tbk, 400, .inl g_6))]) hD hS hA [1, 2] rfl
  refine va_callv (va_runV (As := [.int a2]) (rest := []) ⟨hx, hb, hml, hown, hts⟩ (c_add_8 l dC dI tp tb tbk g_6 a2  H.size) (cwV 1 hts (gUV tw_468 tw_469 tw_470 tw_2 tw_471) rfl rfl rfl (by decide +kernel) ⟨(Nat.le_of_ble_eq_true rfl), (Nat.le_of_ble_eq_true rfl)⟩) ⟨cPre.blind, va_recv hKc hPc (ci := 9) (q0 := 0) rfl rfl, cPre.use hPc hKc hDc hE⟩ rfl rfl hl.1 rfl (lv_room (Nat.le_of_ble_eq_true rfl)) dX11_feed_35 ⟨(Nat.le_of_ble_eq_true rfl), (Nat.le_of_ble_eq_true rfl)⟩) hS (fun q _ h => hFc q h) hFc (fun u t H1 locs ht hvm hw hB hz1 hk1 hS => ?_)
  obtain ⟨g_8, hP1, hK1, hD1⟩ := hB
  rw [ht] at hP1
  obtain ⟨hP, hD⟩ := va_join (wr := [(h0, .inr (11, [.ref tp, .ref cr, .ref rr, .ref ra, .int 0, .ref nw, .ref im, .ref ps, .ref po, .ref dy, .ref cn, .ref tr]))]) (w1 := [(tp, .inr (9, [.ref tb, .int 12, .int 0, .int 0])), (tb, .inl (tbk, 400, .inl g_8))]) hP hD [1, 2] [0] rfl rfl (by decide) (by decide) hk1 hFc hP1 hD1
  generalize H1 = H at hP hS ⊢
  have hP : va_P (dC, dI) vwCl [(h0, .inr (11, [.ref tp, .ref cr, .ref rr, .ref ra, .int 0, .ref nw, .ref im, .ref ps, .ref po, .ref dy, .ref cn, .ref tr])), (tp, .inr (9, [.ref tb, .int 12, .int 0, .int 0])), (tb, .inl (tbk, 400, .inl g_8))] H := hP
  have hD : va_D A [(h0, .inr (11, [.ref tp, .ref cr, .ref rr, .ref ra, .int 0, .ref nw, .ref im, .ref ps, .ref po, .ref dy, .ref cn, .ref tr])), (tp, .inr (9, [.ref tb, .int 12, .int 0, .int 0])), (tb, .inl (tbk, 400, .inl g_8))] := hD
  refine lv_aload_n hx hb dX11_feed_38 rfl (lv_at hl 0 rfl) ?_
  refine va_get (D := (dC, dI)) (ci := 11) (v := .ref tp) (C := RX11) (T := TX11) (N := 12) hx hb hts iX11 hown hK hP 0 rfl rfl 0 (by decide) (hts _ tw_423) (fun _ h9 => h9) rfl dX11_feed_39 ?_
  refine lv_iload hx hb dX11_feed_42 (lv_at hl 4 rfl) ?_
  have hPc := hP.sub (ws' := [(tp, .inr (9, [.ref tb, .int 12, .int 0, .int 0])), (tb, .inl (tbk, 400, .inl g_8))]) [1, 2] rfl
  have hDc := hD.sub (ws' := [(tp, .inr (9, [.ref tb, .int 12, .int 0, .int 0])), (tb, .inl (tbk, 400, .inl g_8))]) [1, 2] (by decide) rfl
  have hKc := hK.sub (tys' := [(tbk, .byte)]) [0] rfl
  have hFc := va_free (wc := [(tp, .inr (9, [.ref tb, .int 12, .int 0, .int 0])), (tb, .inl (tbk, 400, .inl g_8))]) hD hS hA [1, 2] rfl
  refine va_callv (va_runV (As := [.int a3]) (rest := []) ⟨hx, hb, hml, hown, hts⟩ (c_add_12 l dC dI tp tb tbk g_8 a3  H.size) (cwV 1 hts (gUV tw_468 tw_469 tw_470 tw_2 tw_471) rfl rfl rfl (by decide +kernel) ⟨(Nat.le_of_ble_eq_true rfl), (Nat.le_of_ble_eq_true rfl)⟩) ⟨cPre.blind, va_recv hKc hPc (ci := 9) (q0 := 0) rfl rfl, cPre.use hPc hKc hDc hE⟩ rfl rfl hl.1 rfl (lv_room (Nat.le_of_ble_eq_true rfl)) dX11_feed_44 ⟨(Nat.le_of_ble_eq_true rfl), (Nat.le_of_ble_eq_true rfl)⟩) hS (fun q _ h => hFc q h) hFc (fun u t H1 locs ht hvm hw hB hz1 hk1 hS => ?_)
  obtain ⟨g_10, hP1, hK1, hD1⟩ := hB
  rw [ht] at hP1
  obtain ⟨hP, hD⟩ := va_join (wr := [(h0, .inr (11, [.ref tp, .ref cr, .ref rr, .ref ra, .int 0, .ref nw, .ref im, .ref ps, .ref po, .ref dy, .ref cn, .ref tr]))]) (w1 := [(tp, .inr (9, [.ref tb, .int 16, .int 0, .int 0])), (tb, .inl (tbk, 400, .inl g_10))]) hP hD [1, 2] [0] rfl rfl (by decide) (by decide) hk1 hFc hP1 hD1
  generalize H1 = H at hP hS ⊢
  have hP : va_P (dC, dI) vwCl [(h0, .inr (11, [.ref tp, .ref cr, .ref rr, .ref ra, .int 0, .ref nw, .ref im, .ref ps, .ref po, .ref dy, .ref cn, .ref tr])), (tp, .inr (9, [.ref tb, .int 16, .int 0, .int 0])), (tb, .inl (tbk, 400, .inl g_10))] H := hP
  have hD : va_D A [(h0, .inr (11, [.ref tp, .ref cr, .ref rr, .ref ra, .int 0, .ref nw, .ref im, .ref ps, .ref po, .ref dy, .ref cn, .ref tr])), (tp, .inr (9, [.ref tb, .int 16, .int 0, .int 0])), (tb, .inl (tbk, 400, .inl g_10))] := hD
  refine lv_aload_n hx hb dX11_feed_47 rfl (lv_at hl 0 rfl) ?_
  refine va_get (D := (dC, dI)) (ci := 11) (v := .ref tp) (C := RX11) (T := TX11) (N := 12) hx hb hts iX11 hown hK hP 0 rfl rfl 0 (by decide) (hts _ tw_423) (fun _ h9 => h9) rfl dX11_feed_48 ?_
  refine lv_iload hx hb dX11_feed_51 (lv_at hl 5 rfl) ?_
  have hPc := hP.sub (ws' := [(tp, .inr (9, [.ref tb, .int 16, .int 0, .int 0])), (tb, .inl (tbk, 400, .inl g_10))]) [1, 2] rfl
  have hDc := hD.sub (ws' := [(tp, .inr (9, [.ref tb, .int 16, .int 0, .int 0])), (tb, .inl (tbk, 400, .inl g_10))]) [1, 2] (by decide) rfl
  have hKc := hK.sub (tys' := [(tbk, .byte)]) [0] rfl
  have hFc := va_free (wc := [(tp, .inr (9, [.ref tb, .int 16, .int 0, .int 0])), (tb, .inl (tbk, 400, .inl g_10))]) hD hS hA [1, 2] rfl
  refine va_callv (va_runV (As := [.int a4]) (rest := []) ⟨hx, hb, hml, hown, hts⟩ (c_add_16 l dC dI tp tb tbk g_10 a4  H.size) (cwV 1 hts (gUV tw_468 tw_469 tw_470 tw_2 tw_471) rfl rfl rfl (by decide +kernel) ⟨(Nat.le_of_ble_eq_true rfl), (Nat.le_of_ble_eq_true rfl)⟩) ⟨cPre.blind, va_recv hKc hPc (ci := 9) (q0 := 0) rfl rfl, cPre.use hPc hKc hDc hE⟩ rfl rfl hl.1 rfl (lv_room (Nat.le_of_ble_eq_true rfl)) dX11_feed_53 ⟨(Nat.le_of_ble_eq_true rfl), (Nat.le_of_ble_eq_true rfl)⟩) hS (fun q _ h => hFc q h) hFc (fun u t H1 locs ht hvm hw hB hz1 hk1 hS => ?_)
  obtain ⟨g_12, hP1, hK1, hD1⟩ := hB
  rw [ht] at hP1
  obtain ⟨hP, hD⟩ := va_join (wr := [(h0, .inr (11, [.ref tp, .ref cr, .ref rr, .ref ra, .int 0, .ref nw, .ref im, .ref ps, .ref po, .ref dy, .ref cn, .ref tr]))]) (w1 := [(tp, .inr (9, [.ref tb, .int 20, .int 0, .int 0])), (tb, .inl (tbk, 400, .inl g_12))]) hP hD [1, 2] [0] rfl rfl (by decide) (by decide) hk1 hFc hP1 hD1
  generalize H1 = H at hP hS ⊢
  have hP : va_P (dC, dI) vwCl [(h0, .inr (11, [.ref tp, .ref cr, .ref rr, .ref ra, .int 0, .ref nw, .ref im, .ref ps, .ref po, .ref dy, .ref cn, .ref tr])), (tp, .inr (9, [.ref tb, .int 20, .int 0, .int 0])), (tb, .inl (tbk, 400, .inl g_12))] H := hP
  have hD : va_D A [(h0, .inr (11, [.ref tp, .ref cr, .ref rr, .ref ra, .int 0, .ref nw, .ref im, .ref ps, .ref po, .ref dy, .ref cn, .ref tr])), (tp, .inr (9, [.ref tb, .int 20, .int 0, .int 0])), (tb, .inl (tbk, 400, .inl g_12))] := hD
  refine lv_aload_n hx hb dX11_feed_56 rfl (lv_at hl 0 rfl) ?_
  refine va_get (D := (dC, dI)) (ci := 11) (v := .ref tp) (C := RX11) (T := TX11) (N := 12) hx hb hts iX11 hown hK hP 0 rfl rfl 0 (by decide) (hts _ tw_423) (fun _ h9 => h9) rfl dX11_feed_57 ?_
  refine va_get (D := (dC, dI)) (ci := 9) (v := .int 20) (C := RX9) (T := TX9) (N := 4) hx hb hts iX9 hown hK hP 1 rfl rfl 1 (by decide) (hts _ tw_38) (fun _ h9 => h9) rfl dX11_feed_60 ?_
  refine W.widen (k := 0) (n := 0) (Nat.le_of_ble_eq_true rfl) (Nat.le_of_ble_eq_true rfl) ?_
  exact W.iret (v := 20) hx hb hr (fun t ht hW => ⟨⟨20, (), rfl, rfl, trivial⟩, hS.F ht⟩) hS.2.2 dX11_feed_63
