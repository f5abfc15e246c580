set_option maxHeartbeats 4000000 in
set_option maxRecDepth 100000 in
theorem t_X12_in_x (l : Launch) (dC : Nat → ClassId) (dI : Nat → Nat → Nat) (tys : List (ClassId × FieldType)) (κ : tK) (B : Nat) (ws : va_W) (hT : Ty κ tys B ws) (a0 : Int64) (a1 : Int64) (a2 : Int64) (sz : Nat) : Met l yX12_in (ws_u yX12_in cX12_in 6 (some .boolean)) ({ frames := 0, cells := 0, slots := 0, locals := 0 }) (va_Pc [.long a0, .long a1, .long a2] (cPre (dC, dI) tys ws sz)) (va_Qi (fun (r : Int32) (w : va_W) => 0 ≤ r.toInt ∧ r.toInt ≤ 1 ∧ Ty κ tys B w ∧ Sm [] [] κ ws w ∧ ((r.toInt = 0 ∨ (a1.toInt ≤ a0.toInt ∧ a0.toInt ≤ a2.toInt)) ∧ (r.toInt ≠ 0 ∨ a0.toInt < a1.toInt ∨ a2.toInt < a0.toInt))) (fun w t => cPost (dC, dI) tys w (va_A ws sz) t) (va_A ws sz)) 0 0 (va_A ws sz) := by
  refine Met.ofW (cc := cX12_in) (maxL := 6) (ret := (some .boolean)) (by decide) rfl ?_
  intro p e s m args below meth c s₁ B0 hml hv
  obtain ⟨rfl, hsz, hP, hK, hD0, hE⟩ := hv
  have hx := B0.exec
  have hb := B0.bytes
  have hr := B0.returns
  have hts0 := atoms_spec (ws := ws_u yX12_in cX12_in 6 (some .boolean)) B0.pre
  have hts : ∀ w ∈ gT, w.before _ s = true := fun w h => hts0 w (List.mem_cons_of_mem _ h)
  have hown : s.vm.findClass RX12 = some m.cls := findClass_of_methodNamed B0.named
  have hlocks := B0.notSynchronized
  subst hsz
  have hD := hD0.self (sz := s.heap.size)
  generalize hAe : va_A ws s.heap.size = A at hD ⊢
  have hA : ∀ q : Nat, s.heap.size ≤ q → A q := fun q h => by rw [← hAe]; exact Or.inr h
  have hw : tW (dC, dI) tys κ B A s ws s.heap [] := ⟨hK, hP, hD, va_S.rf, hT⟩
  have hM : Sm [] [] κ ws ws := Sm.rf
  clear hP hK hD hD0 hts0
  have hl := lv_entry ([.long a0, .long a1, .long a2]) (n := 6) (Nat.le_of_ble_eq_true rfl)
  rw [lg_entry_eq]
  generalize (lg_sl ([.long a0, .long a1, .long a2]) ++ List.replicate (6 - (lg_sl ([.long a0, .long a1, .long a2])).length) Slot.unset).toArray = ls at hl ⊢
  have hl : lv_has ls 6 [(0, .long a0), (2, .long a1), (4, .long a2)] := hl
  refine t_start (fun QQ hQ => ?_)
  refine lv_lload_n hx hb dX12_in_0 rfl (lv_at hl 0 rfl) ?_
  refine lv_lload_n hx hb dX12_in_1 rfl (lv_at hl 1 rfl) ?_
  refine W.lcmp hx hb dX12_in_2 ?_
  refine lv_topi (fun v2 e_v2 => ?_)
  have l_v2 := i32_lo v2
  have h_v2 := i32_hi v2
  have g_v2 := lgc e_v2
  refine lv_if_lt (tgt := 17) hx hb dX12_in_3 (by decide) (fun c_3 => ?_) (fun c_3 => ?_)
  · simp only [fa_lt, fa_le, fa_eq, li_0] at c_3
    refine lv_iconst (v := 0) hx hb dX12_in_17 (by decide) ?_
    rw [hQ]
    refine W.widen (k := 0) (n := 0) (Nat.le_refl _) (Nat.le_refl _) ?_
    exact W.zret (v := 0) hx hb hr rfl (fun t ht hW => ⟨⟨0, ws, rfl, ⟨(by decide), (by decide), hw.2.2.2.2, hM, (by have := li_0; omega)⟩, by rw [ht]; exact hw.2.1, va_K.moved hW.alike hw.1, hw.2.2.1⟩, hw.2.2.2.1.F ht⟩) hw.2.2.2.1.2.2 dX12_in_18
  · simp only [fa_lt, fa_le, fa_eq, li_0] at c_3
    refine lv_lload_n hx hb dX12_in_6 rfl (lv_at hl 0 rfl) ?_
    refine lv_lload hx hb dX12_in_7 (lv_at hl 2 rfl) ?_
    refine W.lcmp hx hb dX12_in_9 ?_
    refine lv_topi (fun v9 e_v9 => ?_)
    have l_v9 := i32_lo v9
    have h_v9 := i32_hi v9
    have g_v9 := lgc e_v9
    refine lv_if_gt (tgt := 17) hx hb dX12_in_10 (by decide) (fun c_10 => ?_) (fun c_10 => ?_)
    · simp only [fa_lt, fa_le, fa_eq, li_0] at c_10
      refine lv_iconst (v := 0) hx hb dX12_in_17 (by decide) ?_
      rw [hQ]
      refine W.widen (k := 0) (n := 0) (Nat.le_refl _) (Nat.le_refl _) ?_
      exact W.zret (v := 0) hx hb hr rfl (fun t ht hW => ⟨⟨0, ws, rfl, ⟨(by decide), (by decide), hw.2.2.2.2, hM, (by have := li_0; omega)⟩, by rw [ht]; exact hw.2.1, va_K.moved hW.alike hw.1, hw.2.2.1⟩, hw.2.2.2.1.F ht⟩) hw.2.2.2.1.2.2 dX12_in_18
    · simp only [fa_lt, fa_le, fa_eq, li_0] at c_10
      refine lv_iconst (v := 1) hx hb dX12_in_13 (by decide) ?_
      refine lv_goto (tgt := 18) hx hb dX12_in_14 (by decide) ?_
      rw [hQ]
      refine W.widen (k := 0) (n := 0) (Nat.le_refl _) (Nat.le_refl _) ?_
      exact W.zret (v := 1) hx hb hr rfl (fun t ht hW => ⟨⟨1, ws, rfl, ⟨(by decide), (by decide), hw.2.2.2.2, hM, (by have := li_1; omega)⟩, by rw [ht]; exact hw.2.1, va_K.moved hW.alike hw.1, hw.2.2.1⟩, hw.2.2.2.1.F ht⟩) hw.2.2.2.1.2.2 dX12_in_18
set_option maxHeartbeats 4000000 in
set_option maxRecDepth 100000 in
theorem t_X10_copyFrom_x (l : Launch) (dC : Nat → ClassId) (dI : Nat → Nat → Nat) (tys : List (ClassId × FieldType)) (κ : tK) (B : Nat) (ws : va_W) (hT : Ty κ tys B ws) (a0 : Nat) (k_a0 : κ a0 = some 10) (a1 : Nat) (k_a1 : κ a1 = some 10) (sz : Nat) : Met l yX10_copyFrom (ws_u yX10_copyFrom cX10_copyFrom 2 none) ({ frames := 2, cells := 0, slots := 0, locals := 81 }) (va_Pc [.ref a0, .ref a1] (cPre (dC, dI) tys ws sz)) (va_Qv (fun (w : va_W) => Ty κ tys B w ∧ Sm [(8, 0), (8, 1), (8, 2), (8, 3), (8, 4), (8, 5), (8, 6), (10, 0), (10, 2), (10, 3), (10, 4)] [43, 44, 45, 46, 47, 48, 50, 51] κ ws w ∧ (∀ v : Value, fld ws a1 10 3 v → fld w a0 10 3 v) ∧ Ox ws w a0) (fun w t => cPost (dC, dI) tys w (va_A ws sz) t) (va_A ws sz)) 0 0 (va_A ws sz) := by
  refine Met.ofW (cc := cX10_copyFrom) (maxL := 2) (ret := none) (by decide) rfl ?_
  intro p e s m args below meth c s₁ B0 hml hv
  obtain ⟨rfl, hsz, hP, hK, hD0, hE⟩ := hv
  have hx := B0.exec
  have hb := B0.bytes
  have hr := B0.returns
  have hts0 := atoms_spec (ws := ws_u yX10_copyFrom cX10_copyFrom 2 none) B0.pre
  have hts : ∀ w ∈ gT, w.before _ s = true := fun w h => hts0 w (List.mem_cons_of_mem _ h)
  have hown : s.vm.findClass RX10 = some m.cls := findClass_of_methodNamed B0.named
  have hlocks := B0.notSynchronized
  subst hsz
  have hD := hD0.self (sz := s.heap.size)
  generalize hAe : va_A ws s.heap.size = A at hD ⊢
  have hA : ∀ q : Nat, s.heap.size ≤ q → A q := fun q h => by rw [← hAe]; exact Or.inr h
  have hw : tW (dC, dI) tys κ B A s ws s.heap [] := ⟨hK, hP, hD, va_S.rf, hT⟩
  have hM : Sm [(8, 0), (8, 1), (8, 2), (8, 3), (8, 4), (8, 5), (8, 6), (10, 0), (10, 2), (10, 3), (10, 4)] [43, 44, 45, 46, 47, 48, 50, 51] κ ws ws := Sm.rf
  clear hP hK hD hD0 hts0
  have hl := lv_entry ([.ref a0, .ref a1]) (n := 2) (Nat.le_of_ble_eq_true rfl)
  rw [lg_entry_eq]
  generalize (lg_sl ([.ref a0, .ref a1]) ++ List.replicate (2 - (lg_sl ([.ref a0, .ref a1])).length) Slot.unset).toArray = ls at hl ⊢
  have hl : lv_has ls 2 [(0, .ref a0), (1, .ref a1)] := hl
  refine t_start (fun QQ hQ => ?_)
  have hAx : Ax ws ws := fun _ _ h => h
  refine lv_aload_n hx hb dX10_copyFrom_0 rfl (lv_at hl 0 rfl) ?_
  refine lv_aload_n hx hb dX10_copyFrom_1 rfl (lv_at hl 1 rfl) ?_
  refine t_getr (k1 := 0) (ci := 10) (C := RX10) (T := TX10) (N := 8) hx hb hts iX10 hown hw k_a1 rfl rfl rfl 0 (by decide) (hts _ tw_281) (fun _ h9 => h9) dX10_copyFrom_2 rfl (fun v2 k_v2 f_a1_X10_0 => ?_)
  refine t_put (ci := 10) (C := RX10) (T := TX10) (N := 8) (v := .ref v2) hx hb hts iX10 tyX10 tyX10_ok nmX10 hown hw k_a0 rfl rfl rfl 0 (by decide) (hts _ tw_281) (fun _ h9 => h9) rfl (tyX10_ok 0 (by decide)) rfl rfl (okV.ref (k := 0) rfl k_v2) dX10_copyFrom_5 (fun w_1 H locs hw u => ?_)
  have hM := hM.up1 u (by decide)
  have f_a1_X10_0 := u.same f_a1_X10_0
  have f_a0_X10_0 := u.2.2
  have hAx := hAx.sm (κ := κ) (Sm.of1 u) (by decide)
  refine lv_aload_n hx hb dX10_copyFrom_8 rfl (lv_at hl 0 rfl) ?_
  refine t_getr (k1 := 8) (ci := 10) (C := RX10) (T := TX10) (N := 8) hx hb hts iX10 hown hw k_a0 rfl rfl rfl 1 (by decide) (hts _ tw_284) (fun _ h9 => h9) dX10_copyFrom_9 rfl (fun v9 k_v9 f_a0_X10_1 => ?_)
  refine lv_aload_n hx hb dX10_copyFrom_12 rfl (lv_at hl 1 rfl) ?_
  refine t_getr (k1 := 8) (ci := 10) (C := RX10) (T := TX10) (N := 8) hx hb hts iX10 hown hw k_a1 rfl rfl rfl 1 (by decide) (hts _ tw_284) (fun _ h9 => h9) dX10_copyFrom_13 rfl (fun v13 k_v13 f_a1_X10_1 => ?_)
  obtain ⟨u_v16q0, q_v16q0, f_v13_X8_1⟩ := t_peek (k := 1) hw.2.2.2.2 k_v13 rfl (by decide)
  obtain ⟨v16q0, rfl, l_v16q0, h_v16q0⟩ := q_v16q0.geti (lo := (-1)) (hi := 5) rfl
  refine t_callv (va_runV (As := [.ref v13]) (rest := []) ⟨hx, hb, hml, hown, hts⟩ (t_X8_copyFrom l dC dI tys κ B w_1 hw.2.2.2.2 v9 k_v9 v13 k_v13 v16q0 (by omega) (by omega) f_v13_X8_1 H.size) (cwV 1 hts (gUV tw_1113 tw_752 tw_753 tw_8 tw_754) rfl rfl rfl (by decide +kernel) ⟨(Nat.le_of_ble_eq_true rfl), (Nat.le_of_ble_eq_true rfl)⟩) ⟨cPre.blind, t_recv hw (ci := 8) k_v9 rfl rfl, cPre.use hw.2.1 hw.1 hw.2.2.1 hE⟩ rfl rfl hl.1 rfl (lv_room (Nat.le_of_ble_eq_true rfl)) dX10_copyFrom_16 ⟨(Nat.le_of_ble_eq_true rfl), (Nat.le_of_ble_eq_true rfl)⟩) hw hA (fun _ h => h.1) (fun w_2 H locs hp hw => ?_)
  obtain ⟨_, hm, f_v13_X8_1⟩ := hp
  have hM := hM.trans hm (by decide) (by decide)
  have f_a1_X10_0 := hm.1 _ _ _ _ f_a1_X10_0 (by decide)
  have f_a0_X10_0 := hm.1 _ _ _ _ f_a0_X10_0 (by decide)
  have f_a0_X10_1 := hm.1 _ _ _ _ f_a0_X10_1 (by decide)
  have f_a1_X10_1 := hm.1 _ _ _ _ f_a1_X10_1 (by decide)
  have hAx := hAx.sm (κ := κ) hm (by decide)
  refine lv_aload_n hx hb dX10_copyFrom_19 rfl (lv_at hl 0 rfl) ?_
  refine lv_aload_n hx hb dX10_copyFrom_20 rfl (lv_at hl 1 rfl) ?_
  refine t_geti (ci := 10) (C := RX10) (T := TX10) (N := 8) hx hb hts iX10 hown hw k_a1 rfl rfl rfl 2 (by decide) (hts _ tw_286) (fun _ h9 => h9) dX10_copyFrom_21 rfl (fun v21 l_v21 h_v21 f_a1_X10_2 => ?_)
  have l_v21 : (-2147483648) ≤ v21.toInt := l_v21
  have h_v21 : v21.toInt ≤ 2147483647 := h_v21
  refine t_put (ci := 10) (C := RX10) (T := TX10) (N := 8) (v := .int v21) hx hb hts iX10 tyX10 tyX10_ok nmX10 hown hw k_a0 rfl rfl rfl 2 (by decide) (hts _ tw_286) (fun _ h9 => h9) rfl (tyX10_ok 2 (by decide)) rfl rfl (okV.int rfl (by omega) (by omega)) dX10_copyFrom_24 (fun w_3 H locs hw u => ?_)
  have hM := hM.up1 u (by decide)
  have f_a1_X10_0 := u.1 _ _ _ _ f_a1_X10_0 (Or.inr (Or.inr (by decide)))
  have f_a0_X10_0 := u.1 _ _ _ _ f_a0_X10_0 (Or.inr (Or.inr (by decide)))
  have f_a0_X10_1 := u.1 _ _ _ _ f_a0_X10_1 (Or.inr (Or.inr (by decide)))
  have f_a1_X10_1 := u.1 _ _ _ _ f_a1_X10_1 (Or.inr (Or.inr (by decide)))
  have f_v13_X8_1 := u.1 _ _ _ _ f_v13_X8_1 (Or.inr (Or.inl (by decide)))
  have f_a1_X10_2 := u.same f_a1_X10_2
  have f_a0_X10_2 := u.2.2
  have hAx := hAx.sm (κ := κ) (Sm.of1 u) (by decide)
  refine lv_aload_n hx hb dX10_copyFrom_27 rfl (lv_at hl 0 rfl) ?_
  refine lv_aload_n hx hb dX10_copyFrom_28 rfl (lv_at hl 1 rfl) ?_
  refine t_geti (ci := 10) (C := RX10) (T := TX10) (N := 8) hx hb hts iX10 hown hw k_a1 rfl rfl rfl 3 (by decide) (hts _ tw_288) (fun _ h9 => h9) dX10_copyFrom_29 rfl (fun v29 l_v29 h_v29 f_a1_X10_3 => ?_)
  have l_v29 : (-2147483648) ≤ v29.toInt := l_v29
  have h_v29 : v29.toInt ≤ 2147483647 := h_v29
  have hD29 := hw.2.2.1
  have hf29 := f_a1_X10_3
  refine t_put (ci := 10) (C := RX10) (T := TX10) (N := 8) (v := .int v29) hx hb hts iX10 tyX10 tyX10_ok nmX10 hown hw k_a0 rfl rfl rfl 3 (by decide) (hts _ tw_288) (fun _ h9 => h9) rfl (tyX10_ok 3 (by decide)) rfl rfl (okV.int rfl (by omega) (by omega)) dX10_copyFrom_32 (fun w_4 H locs hw u => ?_)
  have hM := hM.up1 u (by decide)
  have f_a1_X10_0 := u.1 _ _ _ _ f_a1_X10_0 (Or.inr (Or.inr (by decide)))
  have f_a0_X10_0 := u.1 _ _ _ _ f_a0_X10_0 (Or.inr (Or.inr (by decide)))
  have f_a0_X10_1 := u.1 _ _ _ _ f_a0_X10_1 (Or.inr (Or.inr (by decide)))
  have f_a1_X10_1 := u.1 _ _ _ _ f_a1_X10_1 (Or.inr (Or.inr (by decide)))
  have f_v13_X8_1 := u.1 _ _ _ _ f_v13_X8_1 (Or.inr (Or.inl (by decide)))
  have f_a1_X10_2 := u.1 _ _ _ _ f_a1_X10_2 (Or.inr (Or.inr (by decide)))
  have f_a0_X10_2 := u.1 _ _ _ _ f_a0_X10_2 (Or.inr (Or.inr (by decide)))
  have f_a1_X10_3 := u.same f_a1_X10_3
  have f_a0_X10_3 := u.2.2
  have hOx : Ox ws w_4 a0 := fun a v ha hf => u.1 _ _ _ _ (hAx a v hf) (Or.inl ha)
  have hcx : ∀ v : Value, fld ws a1 10 3 v → fld w_4 a0 10 3 v := fun v hf => by
    rw [fld_eq hD29 (hAx a1 v hf) hf29]
    exact u.2.2
  refine lv_aload_n hx hb dX10_copyFrom_35 rfl (lv_at hl 0 rfl) ?_
  refine lv_aload_n hx hb dX10_copyFrom_36 rfl (lv_at hl 1 rfl) ?_
  refine t_geti (ci := 10) (C := RX10) (T := TX10) (N := 8) hx hb hts iX10 hown hw k_a1 rfl rfl rfl 4 (by decide) (hts _ tw_290) (fun _ h9 => h9) dX10_copyFrom_37 rfl (fun v37 l_v37 h_v37 f_a1_X10_4 => ?_)
  have l_v37 : 0 ≤ v37.toInt := l_v37
  have h_v37 : v37.toInt ≤ 10 := h_v37
  refine t_put (ci := 10) (C := RX10) (T := TX10) (N := 8) (v := .int v37) hx hb hts iX10 tyX10 tyX10_ok nmX10 hown hw k_a0 rfl rfl rfl 4 (by decide) (hts _ tw_290) (fun _ h9 => h9) rfl (tyX10_ok 4 (by decide)) rfl rfl (okV.int rfl (by omega) (by omega)) dX10_copyFrom_40 (fun w_5 H locs hw u => ?_)
  have hM := hM.up1 u (by decide)
  have f_a1_X10_0 := u.1 _ _ _ _ f_a1_X10_0 (Or.inr (Or.inr (by decide)))
  have f_a0_X10_0 := u.1 _ _ _ _ f_a0_X10_0 (Or.inr (Or.inr (by decide)))
  have f_a0_X10_1 := u.1 _ _ _ _ f_a0_X10_1 (Or.inr (Or.inr (by decide)))
  have f_a1_X10_1 := u.1 _ _ _ _ f_a1_X10_1 (Or.inr (Or.inr (by decide)))
  have f_v13_X8_1 := u.1 _ _ _ _ f_v13_X8_1 (Or.inr (Or.inl (by decide)))
  have f_a1_X10_2 := u.1 _ _ _ _ f_a1_X10_2 (Or.inr (Or.inr (by decide)))
  have f_a0_X10_2 := u.1 _ _ _ _ f_a0_X10_2 (Or.inr (Or.inr (by decide)))
  have f_a1_X10_3 := u.1 _ _ _ _ f_a1_X10_3 (Or.inr (Or.inr (by decide)))
  have f_a0_X10_3 := u.1 _ _ _ _ f_a0_X10_3 (Or.inr (Or.inr (by decide)))
  have f_a1_X10_4 := u.same f_a1_X10_4
  have f_a0_X10_4 := u.2.2
  have hOx := hOx.sm (κ := κ) (Sm.of1 u) (by decide)
  have hcx := cx_sm (κ := κ) hcx (Sm.of1 u) (by decide)
  refine lv_aload_n hx hb dX10_copyFrom_43 rfl (lv_at hl 1 rfl) ?_
  refine t_getr (k1 := 50) (ci := 10) (C := RX10) (T := TX10) (N := 8) hx hb hts iX10 hown hw k_a1 rfl rfl rfl 5 (by decide) (hts _ tw_293) (fun _ h9 => h9) dX10_copyFrom_44 rfl (fun v44 k_v44 f_a1_X10_5 => ?_)
  refine lv_iconst (v := 0) hx hb dX10_copyFrom_47 (by decide) ?_
  refine lv_aload_n hx hb dX10_copyFrom_48 rfl (lv_at hl 0 rfl) ?_
  refine t_getr (k1 := 50) (ci := 10) (C := RX10) (T := TX10) (N := 8) hx hb hts iX10 hown hw k_a0 rfl rfl rfl 5 (by decide) (hts _ tw_293) (fun _ h9 => h9) dX10_copyFrom_49 rfl (fun v49 k_v49 f_a0_X10_5 => ?_)
  refine lv_iconst (v := 0) hx hb dX10_copyFrom_52 (by decide) ?_
  refine lv_bipush (v := 10) hx hb dX10_copyFrom_53 (by decide) ?_
  refine t_copyi hx hb (hml.trans hl.1.symm) hown (hts _ tw_1114) (hts _ tw_623) (hts _ tw_622) (hts _ tw_20) hw k_v44 k_v49 rfl rfl rfl rfl (by decide) (by decide) (by decide) (fun _ _ => rfl) (Nat.le_of_ble_eq_true rfl) (Nat.le_of_ble_eq_true rfl) dX10_copyFrom_55 (fun w_6 H locs y hw u => ?_)
  have hM := hM.up2 u k_v49 (by decide)
  have f_a1_X10_0 := u.1 _ _ _ _ f_a1_X10_0
  have f_a0_X10_0 := u.1 _ _ _ _ f_a0_X10_0
  have f_a0_X10_1 := u.1 _ _ _ _ f_a0_X10_1
  have f_a1_X10_1 := u.1 _ _ _ _ f_a1_X10_1
  have f_v13_X8_1 := u.1 _ _ _ _ f_v13_X8_1
  have f_a1_X10_2 := u.1 _ _ _ _ f_a1_X10_2
  have f_a0_X10_2 := u.1 _ _ _ _ f_a0_X10_2
  have f_a1_X10_3 := u.1 _ _ _ _ f_a1_X10_3
  have f_a0_X10_3 := u.1 _ _ _ _ f_a0_X10_3
  have f_a1_X10_4 := u.1 _ _ _ _ f_a1_X10_4
  have f_a0_X10_4 := u.1 _ _ _ _ f_a0_X10_4
  have f_a1_X10_5 := u.1 _ _ _ _ f_a1_X10_5
  have f_a0_X10_5 := u.1 _ _ _ _ f_a0_X10_5
  have hOx := hOx.sm (κ := κ) (Sm.of2 u k_v49) (by decide)
  have hcx := cx_sm (κ := κ) hcx (Sm.of2 u k_v49) (by decide)
  refine lv_aload_n hx hb dX10_copyFrom_58 rfl (lv_at hl 1 rfl) ?_
  refine t_getr (k1 := 51) (ci := 10) (C := RX10) (T := TX10) (N := 8) hx hb hts iX10 hown hw k_a1 rfl rfl rfl 6 (by decide) (hts _ tw_296) (fun _ h9 => h9) dX10_copyFrom_59 rfl (fun v59 k_v59 f_a1_X10_6 => ?_)
  refine lv_iconst (v := 0) hx hb dX10_copyFrom_62 (by decide) ?_
  refine lv_aload_n hx hb dX10_copyFrom_63 rfl (lv_at hl 0 rfl) ?_
  refine t_getr (k1 := 51) (ci := 10) (C := RX10) (T := TX10) (N := 8) hx hb hts iX10 hown hw k_a0 rfl rfl rfl 6 (by decide) (hts _ tw_296) (fun _ h9 => h9) dX10_copyFrom_64 rfl (fun v64 k_v64 f_a0_X10_6 => ?_)
  refine lv_iconst (v := 0) hx hb dX10_copyFrom_67 (by decide) ?_
  refine lv_bipush (v := 10) hx hb dX10_copyFrom_68 (by decide) ?_
  refine t_copyi hx hb (hml.trans hl.1.symm) hown (hts _ tw_1114) (hts _ tw_623) (hts _ tw_622) (hts _ tw_20) hw k_v59 k_v64 rfl rfl rfl rfl (by decide) (by decide) (by decide) (fun _ _ => rfl) (Nat.le_of_ble_eq_true rfl) (Nat.le_of_ble_eq_true rfl) dX10_copyFrom_70 (fun w_7 H locs y hw u => ?_)
  have hM := hM.up2 u k_v64 (by decide)
  have f_a1_X10_0 := u.1 _ _ _ _ f_a1_X10_0
  have f_a0_X10_0 := u.1 _ _ _ _ f_a0_X10_0
  have f_a0_X10_1 := u.1 _ _ _ _ f_a0_X10_1
  have f_a1_X10_1 := u.1 _ _ _ _ f_a1_X10_1
  have f_v13_X8_1 := u.1 _ _ _ _ f_v13_X8_1
  have f_a1_X10_2 := u.1 _ _ _ _ f_a1_X10_2
  have f_a0_X10_2 := u.1 _ _ _ _ f_a0_X10_2
  have f_a1_X10_3 := u.1 _ _ _ _ f_a1_X10_3
  have f_a0_X10_3 := u.1 _ _ _ _ f_a0_X10_3
  have f_a1_X10_4 := u.1 _ _ _ _ f_a1_X10_4
  have f_a0_X10_4 := u.1 _ _ _ _ f_a0_X10_4
  have f_a1_X10_5 := u.1 _ _ _ _ f_a1_X10_5
  have f_a0_X10_5 := u.1 _ _ _ _ f_a0_X10_5
  have f_a1_X10_6 := u.1 _ _ _ _ f_a1_X10_6
  have f_a0_X10_6 := u.1 _ _ _ _ f_a0_X10_6
  have hOx := hOx.sm (κ := κ) (Sm.of2 u k_v64) (by decide)
  have hcx := cx_sm (κ := κ) hcx (Sm.of2 u k_v64) (by decide)
  rw [hQ]
  refine W.widen (k := 0) (n := 0) (Nat.le_refl _) (Nat.le_refl _) ?_
  exact W.vret hx hb hr (fun t ht hW => ⟨⟨w_7, rfl, ⟨hw.2.2.2.2, hM, ⟨hcx, hOx⟩⟩, by rw [ht]; exact hw.2.1, va_K.moved hW.alike hw.1, hw.2.2.1⟩, hw.2.2.2.1.F ht⟩) hw.2.2.2.1.2.2 dX10_copyFrom_73
set_option maxHeartbeats 4000000 in
set_option maxRecDepth 100000 in
theorem t_X11_seed_x (l : Launch) (dC : Nat → ClassId) (dI : Nat → Nat → Nat) (tys : List (ClassId × FieldType)) (κ : tK) (B : Nat) (ws : va_W) (hT : Ty κ tys B ws) (a0 : Nat) (k_a0 : κ a0 = some 11) (a1 : Int32) {x : Int32} {xs : Nat → Int32} {ms : Nat → Prop} (hBX : BXS κ ws a0 x xs ms) (sz : Nat) : Met l yX11_seed (ws_u yX11_seed cX11_seed 3 (some .int)) ({ frames := 0, cells := 0, slots := 0, locals := 0 }) (va_Pc [.ref a0, .int a1] (cPre (dC, dI) tys ws sz)) (va_Qi (fun (r : Int32) (w : va_W) => Ty κ tys B w ∧ Sm [(10, 3)] [] κ ws w ∧ ((a1.toInt < 0 ∧ r = -1 ∧ BXS κ w a0 x xs ms) ∨ (0 ≤ a1.toInt ∧ r = x ∧ BXS κ w a0 a1 xs ms))) (fun w t => cPost (dC, dI) tys w (va_A ws sz) t) (va_A ws sz)) 0 0 (va_A ws sz) := by
  refine Met.ofW (cc := cX11_seed) (maxL := 3) (ret := (some .int)) (by decide) rfl ?_
  intro p e s m args below meth c s₁ B0 hml hv
  obtain ⟨rfl, hsz, hP, hK, hD0, hE⟩ := hv
  have hx := B0.exec
  have hb := B0.bytes
  have hr := B0.returns
  have hts0 := atoms_spec (ws := ws_u yX11_seed cX11_seed 3 (some .int)) B0.pre
  have hts : ∀ w ∈ gT, w.before _ s = true := fun w h => hts0 w (List.mem_cons_of_mem _ h)
  have hown : s.vm.findClass RX11 = some m.cls := findClass_of_methodNamed B0.named
  have hlocks := B0.notSynchronized
  subst hsz
  have hD := hD0.self (sz := s.heap.size)
  generalize hAe : va_A ws s.heap.size = A at hD ⊢
  have hA : ∀ q : Nat, s.heap.size ≤ q → A q := fun q h => by rw [← hAe]; exact Or.inr h
  have hw : tW (dC, dI) tys κ B A s ws s.heap [] := ⟨hK, hP, hD, va_S.rf, hT⟩
  have hM : Sm [(10, 3)] [] κ ws ws := Sm.rf
  clear hP hK hD hD0 hts0
  have l_a1 := i32_lo a1
  have h_a1 := i32_hi a1
  have hl := lv_entry ([.ref a0, .int a1]) (n := 3) (Nat.le_of_ble_eq_true rfl)
  rw [lg_entry_eq]
  generalize (lg_sl ([.ref a0, .int a1]) ++ List.replicate (3 - (lg_sl ([.ref a0, .int a1])).length) Slot.unset).toArray = ls at hl ⊢
  have hl : lv_has ls 3 [(0, .ref a0), (1, .int a1)] := hl
  refine t_start (fun QQ hQ => ?_)
  refine lv_iload_n hx hb dX11_seed_0 rfl (lv_at hl 1 rfl) ?_
  refine lv_if_ge (tgt := 6) hx hb dX11_seed_1 (by decide) (fun c_1 => ?_) (fun c_1 => ?_)
  · simp only [fa_lt, fa_le, fa_eq, li_0] at c_1
    refine lv_aload_n hx hb dX11_seed_6 rfl (lv_at hl 0 rfl) ?_
    refine t_getr (k1 := 10) (ci := 11) (C := RX11) (T := TX11) (N := 12) hx hb hts iX11 hown hw k_a0 rfl rfl rfl 5 (by decide) (hts _ tw_428) (fun _ h9 => h9) dX11_seed_7 rfl (fun v7 k_v7 f_a0_X11_5 => ?_)
    refine t_geti (ci := 10) (C := RX10) (T := TX10) (N := 8) hx hb hts iX10 hown hw k_v7 rfl rfl rfl 3 (by decide) (hts _ tw_289) (fun _ h9 => h9) dX11_seed_10 rfl (fun v10 l_v10 h_v10 f_v7_X10_3 => ?_)
    have l_v10 : (-2147483648) ≤ v10.toInt := l_v10
    have h_v10 : v10.toInt ≤ 2147483647 := h_v10
    have hxe := hBX.getx hw.2.2.1 f_a0_X11_5 f_v7_X10_3
    refine lv_istore_n (lv' := [(2, .int v10), (0, .ref a0), (1, .int a1)]) hx hb dX11_seed_13 rfl hl (by decide) rfl (fun ls hl => ?_)
    refine lv_aload_n hx hb dX11_seed_14 rfl (lv_at hl 1 rfl) ?_
    refine t_getk (ci := 11) (C := RX11) (T := TX11) (N := 12) hx hb hts iX11 hown hw rfl 5 (by decide) (hts _ tw_428) (fun _ h9 => h9) dX11_seed_15 f_a0_X11_5 ?_
    refine lv_iload_n hx hb dX11_seed_18 rfl (lv_at hl 2 rfl) ?_
    refine t_put (ci := 10) (C := RX10) (T := TX10) (N := 8) (v := .int a1) hx hb hts iX10 tyX10 tyX10_ok nmX10 hown hw k_v7 rfl rfl rfl 3 (by decide) (hts _ tw_289) (fun _ h9 => h9) rfl (tyX10_ok 3 (by decide)) rfl rfl (okV.int rfl (by omega) (by omega)) dX11_seed_19 (fun w_1 H locs hw u => ?_)
    have hM := hM.up1 u (by decide)
    have f_a0_X11_5 := u.1 _ _ _ _ f_a0_X11_5 (Or.inr (Or.inl (by decide)))
    have f_v7_X10_3 := u.2.2
    have hBX := hBX.putx hw.2.2.1 f_a0_X11_5 u
    refine lv_iload_n hx hb dX11_seed_22 rfl (lv_at hl 0 rfl) ?_
    rw [hQ]
    refine W.widen (k := 0) (n := 0) (Nat.le_refl _) (Nat.le_refl _) ?_
    exact W.iret (v := v10) hx hb hr (fun t ht hW => ⟨⟨v10, w_1, rfl, ⟨hw.2.2.2.2, hM, (Or.inr ⟨by omega, hxe, hBX⟩)⟩, by rw [ht]; exact hw.2.1, va_K.moved hW.alike hw.1, hw.2.2.1⟩, hw.2.2.2.1.F ht⟩) hw.2.2.2.1.2.2 dX11_seed_23
  · simp only [fa_lt, fa_le, fa_eq, li_0] at c_1
    refine lv_iconst (v := (-1)) hx hb dX11_seed_4 (by decide) ?_
    rw [hQ]
    refine W.widen (k := 0) (n := 0) (Nat.le_refl _) (Nat.le_refl _) ?_
    exact W.iret (v := (-1)) hx hb hr (fun t ht hW => ⟨⟨(-1), ws, rfl, ⟨hw.2.2.2.2, hM, (Or.inl ⟨by omega, rfl, hBX⟩)⟩, by rw [ht]; exact hw.2.1, va_K.moved hW.alike hw.1, hw.2.2.1⟩, hw.2.2.2.1.F ht⟩) hw.2.2.2.1.2.2 dX11_seed_5
set_option maxHeartbeats 4000000 in
set_option maxRecDepth 100000 in
theorem t_X11_image_x (l : Launch) (dC : Nat → ClassId) (dI : Nat → Nat → Nat) (tys : List (ClassId × FieldType)) (κ : tK) (B : Nat) (ws : va_W) (hT : Ty κ tys B ws) (a0 : Nat) (k_a0 : κ a0 = some 11) (a1 : Int32) {x : Int32} {xs : Nat → Int32} {ms : Nat → Prop} (hBX : BXS κ ws a0 x xs ms) (sz : Nat) : Met l yX11_image (ws_u yX11_image cX11_image 2 (some .int)) ({ frames := 3, cells := 0, slots := 0, locals := 102 }) (va_Pc [.ref a0, .int a1] (cPre (dC, dI) tys ws sz)) (va_Qi (fun (r : Int32) (w : va_W) => Ty κ tys B w ∧ Sm [(8, 0), (8, 1), (8, 2), (8, 3), (8, 4), (8, 5), (8, 6), (10, 0), (10, 2), (10, 3), (10, 4), (10, 7)] [43, 44, 45, 46, 47, 48, 50, 51] κ ws w ∧ ((∃ j : Nat, j < 4 ∧ (j : Int) = a1.toInt ∧ BXS κ w a0 x (upd xs j x) (fun i => i = j ∨ ms i)) ∨ ((∀ j : Nat, j < 4 → ¬ (j : Int) = a1.toInt) ∧ BXS κ w a0 x xs ms))) (fun w t => cPost (dC, dI) tys w (va_A ws sz) t) (va_A ws sz)) 0 0 (va_A ws sz) := by
  refine Met.ofW (cc := cX11_image) (maxL := 2) (ret := (some .int)) (by decide) rfl ?_
  intro p e s m args below meth c s₁ B0 hml hv
  obtain ⟨rfl, hsz, hP, hK, hD0, hE⟩ := hv
  have hx := B0.exec
  have hb := B0.bytes
  have hr := B0.returns
  have hts0 := atoms_spec (ws := ws_u yX11_image cX11_image 2 (some .int)) B0.pre
  have hts : ∀ w ∈ gT, w.before _ s = true := fun w h => hts0 w (List.mem_cons_of_mem _ h)
  have hown : s.vm.findClass RX11 = some m.cls := findClass_of_methodNamed B0.named
  have hlocks := B0.notSynchronized
  subst hsz
  have hD := hD0.self (sz := s.heap.size)
  generalize hAe : va_A ws s.heap.size = A at hD ⊢
  have hA : ∀ q : Nat, s.heap.size ≤ q → A q := fun q h => by rw [← hAe]; exact Or.inr h
  have hw : tW (dC, dI) tys κ B A s ws s.heap [] := ⟨hK, hP, hD, va_S.rf, hT⟩
  have hM : Sm [(8, 0), (8, 1), (8, 2), (8, 3), (8, 4), (8, 5), (8, 6), (10, 0), (10, 2), (10, 3), (10, 4), (10, 7)] [43, 44, 45, 46, 47, 48, 50, 51] κ ws ws := Sm.rf
  clear hP hK hD hD0 hts0
  have l_a1 := i32_lo a1
  have h_a1 := i32_hi a1
  have hl := lv_entry ([.ref a0, .int a1]) (n := 2) (Nat.le_of_ble_eq_true rfl)
  rw [lg_entry_eq]
  generalize (lg_sl ([.ref a0, .int a1]) ++ List.replicate (2 - (lg_sl ([.ref a0, .int a1])).length) Slot.unset).toArray = ls at hl ⊢
  have hl : lv_has ls 2 [(0, .ref a0), (1, .int a1)] := hl
  refine t_start (fun QQ hQ => ?_)
  refine lv_iload_n hx hb dX11_image_0 rfl (lv_at hl 1 rfl) ?_
  refine lv_if_lt (tgt := 9) hx hb dX11_image_1 (by decide) (fun c_1 => ?_) (fun c_1 => ?_)
  · simp only [fa_lt, fa_le, fa_eq, li_0] at c_1
    refine lv_iconst (v := (-1)) hx hb dX11_image_9 (by decide) ?_
    rw [hQ]
    refine W.widen (k := 0) (n := 0) (Nat.le_refl _) (Nat.le_refl _) ?_
    exact W.iret (v := (-1)) hx hb hr (fun t ht hW => ⟨⟨(-1), ws, rfl, ⟨hw.2.2.2.2, hM, (Or.inr ⟨fun j hj z => by omega, hBX⟩)⟩, by rw [ht]; exact hw.2.1, va_K.moved hW.alike hw.1, hw.2.2.1⟩, hw.2.2.2.1.F ht⟩) hw.2.2.2.1.2.2 dX11_image_10
  · simp only [fa_lt, fa_le, fa_eq, li_0] at c_1
    refine lv_iload_n hx hb dX11_image_4 rfl (lv_at hl 1 rfl) ?_
    refine lv_iconst (v := 4) hx hb dX11_image_5 (by decide) ?_
    refine lv_icmp_lt (tgt := 11) hx hb dX11_image_6 (by decide) (fun c_6 => ?_) (fun c_6 => ?_)
    · simp only [fa_lt, fa_le, fa_eq, li_4] at c_6
      refine lv_aload_n hx hb dX11_image_11 rfl (lv_at hl 0 rfl) ?_
      refine t_getr (k1 := 53) (ci := 11) (C := RX11) (T := TX11) (N := 12) hx hb hts iX11 hown hw k_a0 rfl rfl rfl 6 (by decide) (hts _ tw_429) (fun _ h9 => h9) dX11_image_12 rfl (fun v12 k_v12 f_a0_X11_6 => ?_)
      refine lv_iload_n hx hb dX11_image_15 rfl (lv_at hl 1 rfl) ?_
      refine t_aaldx (C := RX10) hx hb hw k_v12 rfl rfl (by omega) (show a1.toInt < 4 by omega) dX11_image_16 (fun v16 k_v16 q_v16 => ?_)
      have k_v16 : κ v16 = some 10 := k_v16
      refine lv_aload_n hx hb dX11_image_17 rfl (lv_at hl 0 rfl) ?_
      refine t_getr (k1 := 10) (ci := 11) (C := RX11) (T := TX11) (N := 12) hx hb hts iX11 hown hw k_a0 rfl rfl rfl 5 (by decide) (hts _ tw_428) (fun _ h9 => h9) dX11_image_18 rfl (fun v18 k_v18 f_a0_X11_5 => ?_)
      have hD18 := hw.2.2.1
      have fm18 := f_a0_X11_6
      have fn18 := f_a0_X11_5
      have hq16 := q_v16
      refine t_callv (va_runV (As := [.ref v18]) (rest := []) ⟨hx, hb, hml, hown, hts⟩ (t_X10_copyFrom_x l dC dI tys κ B ws hw.2.2.2.2 v16 k_v16 v18 k_v18 s.heap.size) (cwV 1 hts (gUV tw_1109 tw_1110 tw_1111 tw_7 tw_1112) rfl rfl rfl (by decide +kernel) ⟨(Nat.le_of_ble_eq_true rfl), (Nat.le_of_ble_eq_true rfl)⟩) ⟨cPre.blind, t_recv hw (ci := 10) k_v16 rfl rfl, cPre.use hw.2.1 hw.1 hw.2.2.1 hE⟩ rfl rfl hl.1 rfl (lv_room (Nat.le_of_ble_eq_true rfl)) dX11_image_21 ⟨(Nat.le_of_ble_eq_true rfl), (Nat.le_of_ble_eq_true rfl)⟩) hw hA (fun _ h => h.1) (fun w_1 H locs hp hw => ?_)
      obtain ⟨_, hm, ⟨hcx_v21, hox_v21⟩⟩ := hp
      have hM := hM.trans hm (by decide) (by decide)
      have f_a0_X11_6 := hm.1 _ _ _ _ f_a0_X11_6 (by decide)
      have f_a0_X11_5 := hm.1 _ _ _ _ f_a0_X11_5 (by decide)
      have hm21 := hm
      refine lv_aload_n hx hb dX11_image_24 rfl (lv_at hl 0 rfl) ?_
      refine t_getk (ci := 11) (C := RX11) (T := TX11) (N := 12) hx hb hts iX11 hown hw rfl 6 (by decide) (hts _ tw_429) (fun _ h9 => h9) dX11_image_25 f_a0_X11_6 ?_
      refine lv_iload_n hx hb dX11_image_28 rfl (lv_at hl 1 rfl) ?_
      refine t_aaldx (C := RX10) hx hb hw k_v12 rfl rfl (by omega) (show a1.toInt < 4 by omega) dX11_image_29 (fun v29 k_v29 q_v29 => ?_)
      have k_v29 : κ v29 = some 10 := k_v29
      have hD29 := hw.2.2.1
      refine lv_iconst (v := 1) hx hb dX11_image_30 (by decide) ?_
      refine t_put (ci := 10) (C := RX10) (T := TX10) (N := 8) (v := .int 1) hx hb hts iX10 tyX10 tyX10_ok nmX10 hown hw k_v29 rfl rfl rfl 7 (by decide) (hts _ tw_299) (fun _ h9 => h9) rfl (tyX10_ok 7 (by decide)) rfl rfl (okV.int rfl (by decide) (by decide)) dX11_image_31 (fun w_2 H locs hw u => ?_)
      have hM := hM.up1 u (by decide)
      have f_a0_X11_6 := u.1 _ _ _ _ f_a0_X11_6 (Or.inr (Or.inl (by decide)))
      have f_a0_X11_5 := u.1 _ _ _ _ f_a0_X11_5 (Or.inr (Or.inl (by decide)))
      have f_v29_X10_7 := u.2.2
      have hBX := hBX.img hD18 hD29 fm18 fn18 hq16 (by omega) hm21 (by decide) (by decide) hcx_v21 hox_v21 q_v29 u (by decide)
      refine lv_aload_n hx hb dX11_image_34 rfl (lv_at hl 0 rfl) ?_
      refine t_getk (ci := 11) (C := RX11) (T := TX11) (N := 12) hx hb hts iX11 hown hw rfl 5 (by decide) (hts _ tw_428) (fun _ h9 => h9) dX11_image_35 f_a0_X11_5 ?_
      refine t_getr (k1 := 8) (ci := 10) (C := RX10) (T := TX10) (N := 8) hx hb hts iX10 hown hw k_v18 rfl rfl rfl 1 (by decide) (hts _ tw_285) (fun _ h9 => h9) dX11_image_38 rfl (fun v38 k_v38 f_v18_X10_1 => ?_)
      refine t_geti (ci := 8) (C := RX8) (T := TX8) (N := 13) hx hb hts iX8 hown hw k_v38 rfl rfl rfl 0 (by decide) (hts _ tw_222) (fun _ h9 => h9) dX11_image_41 rfl (fun v41 l_v41 h_v41 f_v38_X8_0 => ?_)
      have l_v41 : (-2147483648) ≤ v41.toInt := l_v41
      have h_v41 : v41.toInt ≤ 2147483647 := h_v41
      rw [hQ]
      refine W.widen (k := 0) (n := 0) (Nat.le_refl _) (Nat.le_refl _) ?_
      exact W.iret (v := v41) hx hb hr (fun t ht hW => ⟨⟨v41, w_2, rfl, ⟨hw.2.2.2.2, hM, (Or.inl ⟨a1.toInt.toNat, by omega, by omega, hBX⟩)⟩, by rw [ht]; exact hw.2.1, va_K.moved hW.alike hw.1, hw.2.2.1⟩, hw.2.2.2.1.F ht⟩) hw.2.2.2.1.2.2 dX11_image_44
    · simp only [fa_lt, fa_le, fa_eq, li_4] at c_6
      refine lv_iconst (v := (-1)) hx hb dX11_image_9 (by decide) ?_
      rw [hQ]
      refine W.widen (k := 0) (n := 0) (Nat.le_refl _) (Nat.le_refl _) ?_
      exact W.iret (v := (-1)) hx hb hr (fun t ht hW => ⟨⟨(-1), ws, rfl, ⟨hw.2.2.2.2, hM, (Or.inr ⟨fun j hj z => by omega, hBX⟩)⟩, by rw [ht]; exact hw.2.1, va_K.moved hW.alike hw.1, hw.2.2.1⟩, hw.2.2.2.1.F ht⟩) hw.2.2.2.1.2.2 dX11_image_10
set_option maxHeartbeats 4000000 in
set_option maxRecDepth 100000 in
theorem t_X11_back_x (l : Launch) (dC : Nat → ClassId) (dI : Nat → Nat → Nat) (tys : List (ClassId × FieldType)) (κ : tK) (B : Nat) (ws : va_W) (hT : Ty κ tys B ws) (a0 : Nat) (k_a0 : κ a0 = some 11) (a1 : Int32) {x : Int32} {xs : Nat → Int32} {ms : Nat → Prop} (hBX : BXS κ ws a0 x xs ms) (sz : Nat) : Met l yX11_back (ws_u yX11_back cX11_back 2 (some .int)) ({ frames := 3, cells := 0, slots := 0, locals := 102 }) (va_Pc [.ref a0, .int a1] (cPre (dC, dI) tys ws sz)) (va_Qi (fun (r : Int32) (w : va_W) => Ty κ tys B w ∧ Sm [(4, 2), (8, 0), (8, 1), (8, 2), (8, 3), (8, 4), (8, 5), (8, 6), (10, 0), (10, 2), (10, 3), (10, 4)] [43, 44, 45, 46, 47, 48, 50, 51] κ ws w ∧ ((∃ j : Nat, j < 4 ∧ (j : Int) = a1.toInt ∧ ms j ∧ BXS κ w a0 (xs j) xs ms) ∨ ((∀ j : Nat, j < 4 → (j : Int) = a1.toInt → ¬ ms j) ∧ BXS κ w a0 x xs ms))) (fun w t => cPost (dC, dI) tys w (va_A ws sz) t) (va_A ws sz)) 0 0 (va_A ws sz) := by
  refine Met.ofW (cc := cX11_back) (maxL := 2) (ret := (some .int)) (by decide) rfl ?_
  intro p e s m args below meth c s₁ B0 hml hv
  obtain ⟨rfl, hsz, hP, hK, hD0, hE⟩ := hv
  have hx := B0.exec
  have hb := B0.bytes
  have hr := B0.returns
  have hts0 := atoms_spec (ws := ws_u yX11_back cX11_back 2 (some .int)) B0.pre
  have hts : ∀ w ∈ gT, w.before _ s = true := fun w h => hts0 w (List.mem_cons_of_mem _ h)
  have hown : s.vm.findClass RX11 = some m.cls := findClass_of_methodNamed B0.named
  have hlocks := B0.notSynchronized
  subst hsz
  have hD := hD0.self (sz := s.heap.size)
  generalize hAe : va_A ws s.heap.size = A at hD ⊢
  have hA : ∀ q : Nat, s.heap.size ≤ q → A q := fun q h => by rw [← hAe]; exact Or.inr h
  have hw : tW (dC, dI) tys κ B A s ws s.heap [] := ⟨hK, hP, hD, va_S.rf, hT⟩
  have hM : Sm [(4, 2), (8, 0), (8, 1), (8, 2), (8, 3), (8, 4), (8, 5), (8, 6), (10, 0), (10, 2), (10, 3), (10, 4)] [43, 44, 45, 46, 47, 48, 50, 51] κ ws ws := Sm.rf
  clear hP hK hD hD0 hts0
  have l_a1 := i32_lo a1
  have h_a1 := i32_hi a1
  have hl := lv_entry ([.ref a0, .int a1]) (n := 2) (Nat.le_of_ble_eq_true rfl)
  rw [lg_entry_eq]
  generalize (lg_sl ([.ref a0, .int a1]) ++ List.replicate (2 - (lg_sl ([.ref a0, .int a1])).length) Slot.unset).toArray = ls at hl ⊢
  have hl : lv_has ls 2 [(0, .ref a0), (1, .int a1)] := hl
  refine t_start (fun QQ hQ => ?_)
  refine lv_iload_n hx hb dX11_back_0 rfl (lv_at hl 1 rfl) ?_
  refine lv_if_lt (tgt := 21) hx hb dX11_back_1 (by decide) (fun c_1 => ?_) (fun c_1 => ?_)
  · simp only [fa_lt, fa_le, fa_eq, li_0] at c_1
    refine lv_iconst (v := (-1)) hx hb dX11_back_21 (by decide) ?_
    rw [hQ]
    refine W.widen (k := 0) (n := 0) (Nat.le_refl _) (Nat.le_refl _) ?_
    exact W.iret (v := (-1)) hx hb hr (fun t ht hW => ⟨⟨(-1), ws, rfl, ⟨hw.2.2.2.2, hM, (Or.inr ⟨fun j hj z => by first | (exfalso; omega) | (have hj2 : j = a1.toInt.toNat := (by omega); subst hj2; exact fun hz => hmk.mp hz c_18), hBX⟩)⟩, by rw [ht]; exact hw.2.1, va_K.moved hW.alike hw.1, hw.2.2.1⟩, hw.2.2.2.1.F ht⟩) hw.2.2.2.1.2.2 dX11_back_22
  · simp only [fa_lt, fa_le, fa_eq, li_0] at c_1
    refine lv_iload_n hx hb dX11_back_4 rfl (lv_at hl 1 rfl) ?_
    refine lv_iconst (v := 4) hx hb dX11_back_5 (by decide) ?_
    refine lv_icmp_ge (tgt := 21) hx hb dX11_back_6 (by decide) (fun c_6 => ?_) (fun c_6 => ?_)
    · simp only [fa_lt, fa_le, fa_eq, li_4] at c_6
      refine lv_iconst (v := (-1)) hx hb dX11_back_21 (by decide) ?_
      rw [hQ]
      refine W.widen (k := 0) (n := 0) (Nat.le_refl _) (Nat.le_refl _) ?_
      exact W.iret (v := (-1)) hx hb hr (fun t ht hW => ⟨⟨(-1), ws, rfl, ⟨hw.2.2.2.2, hM, (Or.inr ⟨fun j hj z => by first | (exfalso; omega) | (have hj2 : j = a1.toInt.toNat := (by omega); subst hj2; exact fun hz => hmk.mp hz c_18), hBX⟩)⟩, by rw [ht]; exact hw.2.1, va_K.moved hW.alike hw.1, hw.2.2.1⟩, hw.2.2.2.1.F ht⟩) hw.2.2.2.1.2.2 dX11_back_22
    · simp only [fa_lt, fa_le, fa_eq, li_4] at c_6
      refine lv_aload_n hx hb dX11_back_9 rfl (lv_at hl 0 rfl) ?_
      refine t_getr (k1 := 53) (ci := 11) (C := RX11) (T := TX11) (N := 12) hx hb hts iX11 hown hw k_a0 rfl rfl rfl 6 (by decide) (hts _ tw_429) (fun _ h9 => h9) dX11_back_10 rfl (fun v10 k_v10 f_a0_X11_6 => ?_)
      refine lv_iload_n hx hb dX11_back_13 rfl (lv_at hl 1 rfl) ?_
      refine t_aaldx (C := RX10) hx hb hw k_v10 rfl rfl (by omega) (show a1.toInt < 4 by omega) dX11_back_14 (fun v14 k_v14 q_v14 => ?_)
      have k_v14 : κ v14 = some 10 := k_v14
      refine t_geti (ci := 10) (C := RX10) (T := TX10) (N := 8) hx hb hts iX10 hown hw k_v14 rfl rfl rfl 7 (by decide) (hts _ tw_299) (fun _ h9 => h9) dX11_back_15 rfl (fun v15 l_v15 h_v15 f_v14_X10_7 => ?_)
      have l_v15 : 0 ≤ v15.toInt := l_v15
      have h_v15 : v15.toInt ≤ 1 := h_v15
      have hmk := hBX.im hw.2.2.1 f_a0_X11_6 q_v14 (by omega) f_v14_X10_7
      refine lv_if_ne (tgt := 23) hx hb dX11_back_18 (by decide) (fun c_18 => ?_) (fun c_18 => ?_)
      · simp only [fa_lt, fa_le, fa_eq, li_0] at c_18
        refine lv_aload_n hx hb dX11_back_23 rfl (lv_at hl 0 rfl) ?_
        refine t_getr (k1 := 10) (ci := 11) (C := RX11) (T := TX11) (N := 12) hx hb hts iX11 hown hw k_a0 rfl rfl rfl 5 (by decide) (hts _ tw_428) (fun _ h9 => h9) dX11_back_24 rfl (fun v24 k_v24 f_a0_X11_5 => ?_)
        refine lv_aload_n hx hb dX11_back_27 rfl (lv_at hl 0 rfl) ?_
        refine t_getk (ci := 11) (C := RX11) (T := TX11) (N := 12) hx hb hts iX11 hown hw rfl 6 (by decide) (hts _ tw_429) (fun _ h9 => h9) dX11_back_28 f_a0_X11_6 ?_
        refine lv_iload_n hx hb dX11_back_31 rfl (lv_at hl 1 rfl) ?_
        refine t_aaldx (C := RX10) hx hb hw k_v10 rfl rfl (by omega) (show a1.toInt < 4 by omega) dX11_back_32 (fun v32 k_v32 q_v32 => ?_)
        have k_v32 : κ v32 = some 10 := k_v32
        have hD32 := hw.2.2.1
        have fm32 := f_a0_X11_6
        have fn32 := f_a0_X11_5
        have hq32 := q_v32
        refine t_callv (va_runV (As := [.ref v32]) (rest := []) ⟨hx, hb, hml, hown, hts⟩ (t_X10_copyFrom_x l dC dI tys κ B ws hw.2.2.2.2 v24 k_v24 v32 k_v32 s.heap.size) (cwV 1 hts (gUV tw_1109 tw_1110 tw_1111 tw_7 tw_1112) rfl rfl rfl (by decide +kernel) ⟨(Nat.le_of_ble_eq_true rfl), (Nat.le_of_ble_eq_true rfl)⟩) ⟨cPre.blind, t_recv hw (ci := 10) k_v24 rfl rfl, cPre.use hw.2.1 hw.1 hw.2.2.1 hE⟩ rfl rfl hl.1 rfl (lv_room (Nat.le_of_ble_eq_true rfl)) dX11_back_33 ⟨(Nat.le_of_ble_eq_true rfl), (Nat.le_of_ble_eq_true rfl)⟩) hw hA (fun _ h => h.1) (fun w_1 H locs hp hw => ?_)
        obtain ⟨_, hm, ⟨hcx_v33, hox_v33⟩⟩ := hp
        have hM := hM.trans hm (by decide) (by decide)
        have f_a0_X11_6 := hm.1 _ _ _ _ f_a0_X11_6 (by decide)
        have f_v14_X10_7 := hm.1 _ _ _ _ f_v14_X10_7 (by decide)
        have f_a0_X11_5 := hm.1 _ _ _ _ f_a0_X11_5 (by decide)
        have hBX := hBX.bck hD32 fm32 fn32 hq32 (by omega) (hmk.mpr c_18) hm (by decide) (by decide) hcx_v33 hox_v33
        refine lv_aload_n hx hb dX11_back_36 rfl (lv_at hl 0 rfl) ?_
        refine t_getr (k1 := 4) (ci := 11) (C := RX11) (T := TX11) (N := 12) hx hb hts iX11 hown hw k_a0 rfl rfl rfl 7 (by decide) (hts _ tw_430) (fun _ h9 => h9) dX11_back_37 rfl (fun v37 k_v37 f_a0_X11_7 => ?_)
        refine t_callv (va_runV (As := []) (rest := []) ⟨hx, hb, hml, hown, hts⟩ (t_X4_forget l dC dI tys κ B w_1 hw.2.2.2.2 v37 k_v37 H.size) (cwV 0 hts (gUV tw_625 tw_626 tw_627 tw_9 tw_628) rfl rfl rfl (by decide +kernel) ⟨(Nat.le_of_ble_eq_true rfl), (Nat.le_of_ble_eq_true rfl)⟩) ⟨cPre.blind, t_recv hw (ci := 4) k_v37 rfl rfl, cPre.use hw.2.1 hw.1 hw.2.2.1 hE⟩ rfl rfl hl.1 rfl (lv_room (Nat.le_of_ble_eq_true rfl)) dX11_back_40 ⟨(Nat.le_of_ble_eq_true rfl), (Nat.le_of_ble_eq_true rfl)⟩) hw hA (fun _ h => h.1) (fun w_2 H locs hp hw => ?_)
        obtain ⟨_, hm⟩ := hp
        have hM := hM.trans hm (by decide) (by decide)
        have f_a0_X11_6 := hm.1 _ _ _ _ f_a0_X11_6 (by decide)
        have f_v14_X10_7 := hm.1 _ _ _ _ f_v14_X10_7 (by decide)
        have f_a0_X11_5 := hm.1 _ _ _ _ f_a0_X11_5 (by decide)
        have f_a0_X11_7 := hm.1 _ _ _ _ f_a0_X11_7 (by decide)
        have hBX := hBX.sm hm (by decide) (by decide)
        refine lv_aload_n hx hb dX11_back_43 rfl (lv_at hl 0 rfl) ?_
        refine t_getk (ci := 11) (C := RX11) (T := TX11) (N := 12) hx hb hts iX11 hown hw rfl 5 (by decide) (hts _ tw_428) (fun _ h9 => h9) dX11_back_44 f_a0_X11_5 ?_
        refine t_getr (k1 := 8) (ci := 10) (C := RX10) (T := TX10) (N := 8) hx hb hts iX10 hown hw k_v24 rfl rfl rfl 1 (by decide) (hts _ tw_285) (fun _ h9 => h9) dX11_back_47 rfl (fun v47 k_v47 f_v24_X10_1 => ?_)
        refine t_geti (ci := 8) (C := RX8) (T := TX8) (N := 13) hx hb hts iX8 hown hw k_v47 rfl rfl rfl 0 (by decide) (hts _ tw_222) (fun _ h9 => h9) dX11_back_50 rfl (fun v50 l_v50 h_v50 f_v47_X8_0 => ?_)
        have l_v50 : (-2147483648) ≤ v50.toInt := l_v50
        have h_v50 : v50.toInt ≤ 2147483647 := h_v50
        rw [hQ]
        refine W.widen (k := 0) (n := 0) (Nat.le_refl _) (Nat.le_refl _) ?_
        exact W.iret (v := v50) hx hb hr (fun t ht hW => ⟨⟨v50, w_2, rfl, ⟨hw.2.2.2.2, hM, (Or.inl ⟨a1.toInt.toNat, by omega, by omega, hmk.mpr c_18, hBX⟩)⟩, by rw [ht]; exact hw.2.1, va_K.moved hW.alike hw.1, hw.2.2.1⟩, hw.2.2.2.1.F ht⟩) hw.2.2.2.1.2.2 dX11_back_53
      · simp only [fa_lt, fa_le, fa_eq, li_0] at c_18
        refine lv_iconst (v := (-1)) hx hb dX11_back_21 (by decide) ?_
        rw [hQ]
        refine W.widen (k := 0) (n := 0) (Nat.le_refl _) (Nat.le_refl _) ?_
        exact W.iret (v := (-1)) hx hb hr (fun t ht hW => ⟨⟨(-1), ws, rfl, ⟨hw.2.2.2.2, hM, (Or.inr ⟨fun j hj z => by first | (exfalso; omega) | (have hj2 : j = a1.toInt.toNat := (by omega); subst hj2; exact fun hz => hmk.mp hz c_18), hBX⟩)⟩, by rw [ht]; exact hw.2.1, va_K.moved hW.alike hw.1, hw.2.2.1⟩, hw.2.2.2.1.F ht⟩) hw.2.2.2.1.2.2 dX11_back_22
set_option maxHeartbeats 4000000 in
set_option maxRecDepth 100000 in
theorem t_X12_seed_x (l : Launch) (dC : Nat → ClassId) (dI : Nat → Nat → Nat) (tys : List (ClassId × FieldType)) (κ : tK) (B : Nat) (ws : va_W) (hT : Ty κ tys B ws) (a0 : Nat) (k_a0 : κ a0 = some 12) (a1 : Int32) {x : Int32} {xs : Nat → Int32} {ms : Nat → Prop} (hMX : MXS κ ws a0 x xs ms) (sz : Nat) : Met l yX12_seed (ws_u yX12_seed cX12_seed 3 (some .int)) ({ frames := 0, cells := 0, slots := 0, locals := 0 }) (va_Pc [.ref a0, .int a1] (cPre (dC, dI) tys ws sz)) (va_Qi (fun (r : Int32) (w : va_W) => Ty κ tys B w ∧ Sm [(12, 22)] [] κ ws w ∧ ((a1.toInt < 0 ∧ r = -1 ∧ MXS κ w a0 x xs ms) ∨ (0 ≤ a1.toInt ∧ r = x ∧ MXS κ w a0 a1 xs ms))) (fun w t => cPost (dC, dI) tys w (va_A ws sz) t) (va_A ws sz)) 0 0 (va_A ws sz) := by
  refine Met.ofW (cc := cX12_seed) (maxL := 3) (ret := (some .int)) (by decide) rfl ?_
  intro p e s m args below meth c s₁ B0 hml hv
  obtain ⟨rfl, hsz, hP, hK, hD0, hE⟩ := hv
  have hx := B0.exec
  have hb := B0.bytes
  have hr := B0.returns
  have hts0 := atoms_spec (ws := ws_u yX12_seed cX12_seed 3 (some .int)) B0.pre
  have hts : ∀ w ∈ gT, w.before _ s = true := fun w h => hts0 w (List.mem_cons_of_mem _ h)
  have hown : s.vm.findClass RX12 = some m.cls := findClass_of_methodNamed B0.named
  have hlocks := B0.notSynchronized
  subst hsz
  have hD := hD0.self (sz := s.heap.size)
  generalize hAe : va_A ws s.heap.size = A at hD ⊢
  have hA : ∀ q : Nat, s.heap.size ≤ q → A q := fun q h => by rw [← hAe]; exact Or.inr h
  have hw : tW (dC, dI) tys κ B A s ws s.heap [] := ⟨hK, hP, hD, va_S.rf, hT⟩
  have hM : Sm [(12, 22)] [] κ ws ws := Sm.rf
  clear hP hK hD hD0 hts0
  have l_a1 := i32_lo a1
  have h_a1 := i32_hi a1
  have hl := lv_entry ([.ref a0, .int a1]) (n := 3) (Nat.le_of_ble_eq_true rfl)
  rw [lg_entry_eq]
  generalize (lg_sl ([.ref a0, .int a1]) ++ List.replicate (3 - (lg_sl ([.ref a0, .int a1])).length) Slot.unset).toArray = ls at hl ⊢
  have hl : lv_has ls 3 [(0, .ref a0), (1, .int a1)] := hl
  refine t_start (fun QQ hQ => ?_)
  refine lv_iload_n hx hb dX12_seed_0 rfl (lv_at hl 1 rfl) ?_
  refine lv_if_ge (tgt := 6) hx hb dX12_seed_1 (by decide) (fun c_1 => ?_) (fun c_1 => ?_)
  · simp only [fa_lt, fa_le, fa_eq, li_0] at c_1
    refine lv_aload_n hx hb dX12_seed_6 rfl (lv_at hl 0 rfl) ?_
    refine t_geti (ci := 12) (C := RX12) (T := TX12) (N := 38) hx hb hts iX12 hown hw k_a0 rfl rfl rfl 22 (by decide) (hts _ tw_1147) (fun _ h9 => h9) dX12_seed_7 rfl (fun v7 l_v7 h_v7 f_a0_X12_22 => ?_)
    have l_v7 : (-2147483648) ≤ v7.toInt := l_v7
    have h_v7 : v7.toInt ≤ 2147483647 := h_v7
    have hxe := hMX.getx hw.2.2.1 f_a0_X12_22
    refine lv_istore_n (lv' := [(2, .int v7), (0, .ref a0), (1, .int a1)]) hx hb dX12_seed_10 rfl hl (by decide) rfl (fun ls hl => ?_)
    refine lv_aload_n hx hb dX12_seed_11 rfl (lv_at hl 1 rfl) ?_
    refine lv_iload_n hx hb dX12_seed_12 rfl (lv_at hl 2 rfl) ?_
    refine t_put (ci := 12) (C := RX12) (T := TX12) (N := 38) (v := .int a1) hx hb hts iX12 tyX12 tyX12_ok nmX12 hown hw k_a0 rfl rfl rfl 22 (by decide) (hts _ tw_1147) (fun _ h9 => h9) rfl (tyX12_ok 22 (by decide)) rfl rfl (okV.int rfl (by omega) (by omega)) dX12_seed_13 (fun w_1 H locs hw u => ?_)
    have hM := hM.up1 u (by decide)
    have f_a0_X12_22 := u.2.2
    have hMX := hMX.putx u
    refine lv_iload_n hx hb dX12_seed_16 rfl (lv_at hl 0 rfl) ?_
    rw [hQ]
    refine W.widen (k := 0) (n := 0) (Nat.le_refl _) (Nat.le_refl _) ?_
    exact W.iret (v := v7) hx hb hr (fun t ht hW => ⟨⟨v7, w_1, rfl, ⟨hw.2.2.2.2, hM, (Or.inr ⟨by omega, hxe, hMX⟩)⟩, by rw [ht]; exact hw.2.1, va_K.moved hW.alike hw.1, hw.2.2.1⟩, hw.2.2.2.1.F ht⟩) hw.2.2.2.1.2.2 dX12_seed_17
  · simp only [fa_lt, fa_le, fa_eq, li_0] at c_1
    refine lv_iconst (v := (-1)) hx hb dX12_seed_4 (by decide) ?_
    rw [hQ]
    refine W.widen (k := 0) (n := 0) (Nat.le_refl _) (Nat.le_refl _) ?_
    exact W.iret (v := (-1)) hx hb hr (fun t ht hW => ⟨⟨(-1), ws, rfl, ⟨hw.2.2.2.2, hM, (Or.inl ⟨by omega, rfl, hMX⟩)⟩, by rw [ht]; exact hw.2.1, va_K.moved hW.alike hw.1, hw.2.2.1⟩, hw.2.2.2.1.F ht⟩) hw.2.2.2.1.2.2 dX12_seed_5
set_option maxHeartbeats 4000000 in
set_option maxRecDepth 100000 in
theorem t_X12_image_x (l : Launch) (dC : Nat → ClassId) (dI : Nat → Nat → Nat) (tys : List (ClassId × FieldType)) (κ : tK) (B : Nat) (ws : va_W) (hT : Ty κ tys B ws) (a0 : Nat) (k_a0 : κ a0 = some 12) (a1 : Int32) (f0 : Nat) (k_f0 : κ f0 = some 63) (f_a0_X12_20 : fld ws a0 12 20 (.ref f0)) (f1 : Int32) (l_f1 : 0 ≤ f1.toInt) (h_f1 : f1.toInt ≤ 999) (f_f0_M_said_10 : elt ws f0 (10 : Int32).toInt.toNat f1) {x : Int32} {xs : Nat → Int32} {ms : Nat → Prop} (hMX : MXS κ ws a0 x xs ms) (sz : Nat) : Met l yX12_image (ws_u yX12_image cX12_image 3 (some .int)) ({ frames := 1, cells := 0, slots := 0, locals := 25 }) (va_Pc [.ref a0, .int a1] (cPre (dC, dI) tys ws sz)) (va_Qi (fun (r : Int32) (w : va_W) => (-1) ≤ r.toInt ∧ r.toInt ≤ 999 ∧ Ty κ tys B w ∧ Sm [] [72, 73, 74, 75] κ ws w ∧ ((∃ j : Nat, j < 4 ∧ (j : Int) = a1.toInt ∧ MXS κ w a0 x (upd xs j x) (fun i => i = j ∨ ms i)) ∨ ((∀ j : Nat, j < 4 → ¬ (j : Int) = a1.toInt) ∧ MXS κ w a0 x xs ms))) (fun w t => cPost (dC, dI) tys w (va_A ws sz) t) (va_A ws sz)) 0 0 (va_A ws sz) := by
  refine Met.ofW (cc := cX12_image) (maxL := 3) (ret := (some .int)) (by decide) rfl ?_
  intro p e s m args below meth c s₁ B0 hml hv
  obtain ⟨rfl, hsz, hP, hK, hD0, hE⟩ := hv
  have hx := B0.exec
  have hb := B0.bytes
  have hr := B0.returns
  have hts0 := atoms_spec (ws := ws_u yX12_image cX12_image 3 (some .int)) B0.pre
  have hts : ∀ w ∈ gT, w.before _ s = true := fun w h => hts0 w (List.mem_cons_of_mem _ h)
  have hown : s.vm.findClass RX12 = some m.cls := findClass_of_methodNamed B0.named
  have hlocks := B0.notSynchronized
  subst hsz
  have hD := hD0.self (sz := s.heap.size)
  generalize hAe : va_A ws s.heap.size = A at hD ⊢
  have hA : ∀ q : Nat, s.heap.size ≤ q → A q := fun q h => by rw [← hAe]; exact Or.inr h
  have hw : tW (dC, dI) tys κ B A s ws s.heap [] := ⟨hK, hP, hD, va_S.rf, hT⟩
  have hM : Sm [] [72, 73, 74, 75] κ ws ws := Sm.rf
  clear hP hK hD hD0 hts0
  have l_a1 := i32_lo a1
  have h_a1 := i32_hi a1
  have hl := lv_entry ([.ref a0, .int a1]) (n := 3) (Nat.le_of_ble_eq_true rfl)
  rw [lg_entry_eq]
  generalize (lg_sl ([.ref a0, .int a1]) ++ List.replicate (3 - (lg_sl ([.ref a0, .int a1])).length) Slot.unset).toArray = ls at hl ⊢
  have hl : lv_has ls 3 [(0, .ref a0), (1, .int a1)] := hl
  refine t_start (fun QQ hQ => ?_)
  refine lv_iload_n hx hb dX12_image_0 rfl (lv_at hl 1 rfl) ?_
  refine lv_i2l hx hb dX12_image_1 rfl ?_
  refine lv_topl (fun v1 e_v1 => ?_)
  have t_v1 : v1.toInt = a1.toInt := by rw [e_v1, Int32.toInt_toInt64]
  refine lv_lconst (v := 0) hx hb dX12_image_2 (by decide) ?_
  obtain ⟨v2, e_v2⟩ : ∃ y : Int64, y = 0 := ⟨_, rfl⟩
  refine W.eq (g2 := F0 m 3 ls [.long v2, .long v1]) (by rw [e_v2]) ?_
  have t_v2 : v2.toInt = 0 := by rw [e_v2]; decide
  refine lv_ldc2 (v := 3) hx hb hown (hts _ tw_1452) dX12_image_3 ?_
  refine lv_topl (fun v3 e_v3 => ?_)
  have t_v3 : v3.toInt = 3 := by rw [e_v3]; decide
  refine t_calli (va_runS (As := [.long v1, .long v2, .long v3]) (rest := []) ⟨hx, hb, hml, hown, hts⟩ (t_X12_in_x l dC dI tys κ B ws hw.2.2.2.2 v1 v2 v3 s.heap.size) (va_cwS 3 hts (gUS tw_1316 tw_1317 tw_13 tw_1318) rfl rfl rfl (by decide +kernel) ⟨(Nat.le_of_ble_eq_true rfl), (Nat.le_of_ble_eq_true rfl)⟩) ⟨cPre.blind, cPre.use hw.2.1 hw.1 hw.2.2.1 hE⟩ rfl rfl hl.1 rfl (lv_room (Nat.le_of_ble_eq_true rfl)) dX12_image_6 ⟨(Nat.le_of_ble_eq_true rfl), (Nat.le_of_ble_eq_true rfl)⟩) hw hA (fun _ _ h => h.2.2.1) (fun v6 w_1 H locs hp hw => ?_)
  obtain ⟨l_v6, h_v6, _, hm, x_v6_0⟩ := hp
  have hM := hM.trans hm (by decide) (by decide)
  have f_a0_X12_20 := hm.1 _ _ _ _ f_a0_X12_20 (by decide)
  have f_f0_M_said_10 := hm.elt k_f0 (by decide) f_f0_M_said_10
  have hMX := hMX.sm hm (by decide) (by decide)
  refine lv_if_ne (tgt := 14) hx hb dX12_image_9 (by decide) (fun c_9 => ?_) (fun c_9 => ?_)
  · simp only [fa_lt, fa_le, fa_eq, li_0] at c_9
    refine lv_aload_n hx hb dX12_image_14 rfl (lv_at hl 0 rfl) ?_
    refine t_getr (k1 := 75) (ci := 12) (C := RX12) (T := TX12) (N := 38) hx hb hts iX12 hown hw k_a0 rfl rfl rfl 37 (by decide) (hts _ tw_1162) (fun _ h9 => h9) dX12_image_15 rfl (fun v15 k_v15 f_a0_X12_37 => ?_)
    refine lv_iload_n hx hb dX12_image_18 rfl (lv_at hl 1 rfl) ?_
    refine lv_iconst (v := 1) hx hb dX12_image_19 (by decide) ?_
    refine t_zast hx hb hw k_v15 rfl rfl (by omega) (show a1.toInt < 4 by omega) (fun _ => rfl) dX12_image_20 (fun w_2 H locs hw u => ?_)
    have hM := hM.up3 u k_v15 (by decide)
    have f_a0_X12_20 := u.1 _ _ _ _ f_a0_X12_20
    have f_f0_M_said_10 := u.2.2.1 _ _ _ f_f0_M_said_10 (Or.inl (ne_k k_f0 k_v15 (by decide)))
    have f_a0_X12_37 := u.1 _ _ _ _ f_a0_X12_37
    have hMJ := hMX.mk1 hw.2.2.1 f_a0_X12_37 u (by decide)
    refine lv_aload_n hx hb dX12_image_21 rfl (lv_at hl 0 rfl) ?_
    refine t_getr (k1 := 73) (ci := 12) (C := RX12) (T := TX12) (N := 38) hx hb hts iX12 hown hw k_a0 rfl rfl rfl 35 (by decide) (hts _ tw_1160) (fun _ h9 => h9) dX12_image_22 rfl (fun v22 k_v22 f_a0_X12_35 => ?_)
    refine lv_iload_n hx hb dX12_image_25 rfl (lv_at hl 1 rfl) ?_
    refine lv_aload_n hx hb dX12_image_26 rfl (lv_at hl 0 rfl) ?_
    refine t_geti (ci := 12) (C := RX12) (T := TX12) (N := 38) hx hb hts iX12 hown hw k_a0 rfl rfl rfl 21 (by decide) (hts _ tw_1146) (fun _ h9 => h9) dX12_image_27 rfl (fun v27 l_v27 h_v27 f_a0_X12_21 => ?_)
    have l_v27 : (-1) ≤ v27.toInt := l_v27
    have h_v27 : v27.toInt ≤ 5 := h_v27
    refine t_iast hx hb hw k_v22 rfl rfl (by omega) (show a1.toInt < 4 by omega) (show (-1) ≤ v27.toInt by omega) (show v27.toInt ≤ 5 by omega) dX12_image_30 (fun w_3 H locs hw u => ?_)
    have hM := hM.up3 u k_v22 (by decide)
    have f_a0_X12_20 := u.1 _ _ _ _ f_a0_X12_20
    have f_f0_M_said_10 := u.2.2.1 _ _ _ f_f0_M_said_10 (Or.inl (ne_k k_f0 k_v22 (by decide)))
    have f_a0_X12_37 := u.1 _ _ _ _ f_a0_X12_37
    have f_a0_X12_35 := u.1 _ _ _ _ f_a0_X12_35
    have f_a0_X12_21 := u.1 _ _ _ _ f_a0_X12_21
    have hMJ := hMJ.sm (Sm.of3 u k_v22) (by decide) (by decide)
    refine lv_aload_n hx hb dX12_image_31 rfl (lv_at hl 0 rfl) ?_
    refine t_getr (k1 := 74) (ci := 12) (C := RX12) (T := TX12) (N := 38) hx hb hts iX12 hown hw k_a0 rfl rfl rfl 36 (by decide) (hts _ tw_1161) (fun _ h9 => h9) dX12_image_32 rfl (fun v32 k_v32 f_a0_X12_36 => ?_)
    refine lv_iload_n hx hb dX12_image_35 rfl (lv_at hl 1 rfl) ?_
    refine lv_aload_n hx hb dX12_image_36 rfl (lv_at hl 0 rfl) ?_
    refine t_geti (ci := 12) (C := RX12) (T := TX12) (N := 38) hx hb hts iX12 hown hw k_a0 rfl rfl rfl 22 (by decide) (hts _ tw_1147) (fun _ h9 => h9) dX12_image_37 rfl (fun v37 l_v37 h_v37 f_a0_X12_22 => ?_)
    have l_v37 : (-2147483648) ≤ v37.toInt := l_v37
    have h_v37 : v37.toInt ≤ 2147483647 := h_v37
    have hxe := hMJ.getx hw.2.2.1 f_a0_X12_22
    refine t_iast hx hb hw k_v32 rfl rfl (by omega) (show a1.toInt < 4 by omega) (i32_lo _) (i32_hi _) dX12_image_40 (fun w_4 H locs hw u => ?_)
    have hM := hM.up3 u k_v32 (by decide)
    have f_a0_X12_20 := u.1 _ _ _ _ f_a0_X12_20
    have f_f0_M_said_10 := u.2.2.1 _ _ _ f_f0_M_said_10 (Or.inl (ne_k k_f0 k_v32 (by decide)))
    have f_a0_X12_37 := u.1 _ _ _ _ f_a0_X12_37
    have f_a0_X12_35 := u.1 _ _ _ _ f_a0_X12_35
    have f_a0_X12_21 := u.1 _ _ _ _ f_a0_X12_21
    have f_a0_X12_36 := u.1 _ _ _ _ f_a0_X12_36
    have f_a0_X12_22 := u.1 _ _ _ _ f_a0_X12_22
    rw [hxe] at u
    have hMX := hMJ.mk2 hw.2.2.1 f_a0_X12_36 u
    refine lv_iconst (v := 0) hx hb dX12_image_41 (by decide) ?_
    refine lv_istore_n (lv' := [(2, .int 0), (0, .ref a0), (1, .int a1)]) hx hb dX12_image_42 rfl hl (by decide) rfl (fun ls hl => ?_)
    have J43 : ∀ (n : Nat) (H : Heap) (locs : List Loc) (ls : Array Slot), (∃ (w43 : va_W) (p43_l2 : Int32), tW (dC, dI) tys κ B A s w43 H locs ∧ Sm [] [72, 73, 74, 75] κ ws w43 ∧ 0 ≤ p43_l2.toInt ∧ p43_l2.toInt ≤ 306 ∧ fld w43 a0 12 20 (.ref f0) ∧ fld w43 a0 12 21 (.int v27) ∧ fld w43 a0 12 22 (.int v37) ∧ fld w43 a0 12 35 (.ref v22) ∧ fld w43 a0 12 36 (.ref v32) ∧ fld w43 a0 12 37 (.ref v15) ∧ elt w43 f0 (10 : Int32).toInt.toNat f1 ∧ MXS κ w43 a0 x (upd xs a1.toInt.toNat x) (fun i => i = a1.toInt.toNat ∨ ms i) ∧ lv_has ls 3 [(0, .ref a0), (1, .int a1), (2, .int p43_l2)] ∧ (306 - p43_l2.toInt).toNat = n) → W p l e (headSpec (ws_u yX12_image cX12_image 3 (some .int)) ({ frames := 1, cells := 0, slots := 0, locals := 25 })).room s m ([.ref a0, .int a1] : List Value).toArray below meth c H locs 0 0 QQ (F0 m 43 ls []) := by
      refine loopT _ ?_
      intro n_43 H locs ls hI ih_43
      obtain ⟨w43, p43_l2, hw, hM, l_p43_l2, h_p43_l2, f_a0_X12_20, f_a0_X12_21, f_a0_X12_22, f_a0_X12_35, f_a0_X12_36, f_a0_X12_37, f_f0_M_said_10, hMX, hl, hn_43⟩ := hI
      refine lv_iload_n hx hb dX12_image_43 rfl (lv_at hl 2 rfl) ?_
      refine lv_sipush (v := 306) hx hb dX12_image_44 (by decide) ?_
      refine lv_icmp_ge (tgt := 74) hx hb dX12_image_47 (by decide) (fun c_47 => ?_) (fun c_47 => ?_)
      · simp only [fa_lt, fa_le, fa_eq, li_306] at c_47
        refine lv_aload_n hx hb dX12_image_74 rfl (lv_at hl 0 rfl) ?_
        refine t_getk (ci := 12) (C := RX12) (T := TX12) (N := 38) hx hb hts iX12 hown hw rfl 20 (by decide) (hts _ tw_1145) (fun _ h9 => h9) dX12_image_75 f_a0_X12_20 ?_
        refine lv_bipush (v := 10) hx hb dX12_image_78 (by decide) ?_
        refine t_ialdk hx hb hw k_f0 rfl rfl (by decide) (by decide) f_f0_M_said_10 dX12_image_80 ?_
        rw [hQ]
        refine W.widen (k := 0) (n := 0) (Nat.le_refl _) (Nat.le_refl _) ?_
        exact W.iret (v := f1) hx hb hr (fun t ht hW => ⟨⟨f1, w43, rfl, ⟨(by omega), (by omega), hw.2.2.2.2, hM, (Or.inl ⟨a1.toInt.toNat, by omega, by omega, hMX⟩)⟩, by rw [ht]; exact hw.2.1, va_K.moved hW.alike hw.1, hw.2.2.1⟩, hw.2.2.2.1.F ht⟩) hw.2.2.2.1.2.2 dX12_image_81
      · simp only [fa_lt, fa_le, fa_eq, li_306] at c_47
        refine lv_aload_n hx hb dX12_image_50 rfl (lv_at hl 0 rfl) ?_
        refine t_getr (k1 := 72) (ci := 12) (C := RX12) (T := TX12) (N := 38) hx hb hts iX12 hown hw k_a0 rfl rfl rfl 34 (by decide) (hts _ tw_1159) (fun _ h9 => h9) dX12_image_51 rfl (fun v51 k_v51 f_a0_X12_34 => ?_)
        refine lv_sipush (v := 306) hx hb dX12_image_54 (by decide) ?_
        refine lv_iload_n hx hb dX12_image_57 rfl (lv_at hl 1 rfl) ?_
        refine lv_imul hx hb dX12_image_58 ?_
        refine lv_topi (fun v58 e_v58 => ?_)
        have e_v58 : v58.toInt = 306 * a1.toInt := ml_i e_v58 li_306 rfl (by omega) (by omega)
        refine lv_iload_n hx hb dX12_image_59 rfl (lv_at hl 2 rfl) ?_
        refine lv_iadd hx hb dX12_image_60 ?_
        refine lv_topi (fun v60 e_v60 => ?_)
        have e_v60 : v60.toInt = v58.toInt + p43_l2.toInt := ad_i e_v60 rfl rfl (by omega) (by omega)
        refine lv_aload_n hx hb dX12_image_61 rfl (lv_at hl 0 rfl) ?_
        refine t_getk (ci := 12) (C := RX12) (T := TX12) (N := 38) hx hb hts iX12 hown hw rfl 20 (by decide) (hts _ tw_1145) (fun _ h9 => h9) dX12_image_62 f_a0_X12_20 ?_
        refine lv_iload_n hx hb dX12_image_65 rfl (lv_at hl 2 rfl) ?_
        refine t_iald hx hb hw k_f0 rfl rfl (by omega) (show p43_l2.toInt < 306 by omega) dX12_image_66 (fun v66 r_v66 s_v66 q_v66 => ?_)
        have l_v66 := i32_lo v66
        have h_v66 := i32_hi v66
        have hs_v60 : (aiv B 72 v60.toInt.toNat).1 ≤ v66.toInt ∧ v66.toInt ≤ (aiv B 72 v60.toInt.toNat).2 := by
          rw [aiv_said] at r_v66 s_v66
          rw [aiv_images, show v60.toInt.toNat % 306 = p43_l2.toInt.toNat by omega]
          exact ivS_down r_v66 s_v66 (fun hz => by rw [hz] at q_v66; rw [elt_eq hw.2.2.1 q_v66 f_f0_M_said_10]; omega)
        refine t_iast hx hb hw k_v51 rfl rfl (by omega) (show v60.toInt < 1224 by omega) hs_v60.1 hs_v60.2 dX12_image_67 (fun w_5 H locs hw u => ?_)
        have hM := hM.up3 u k_v51 (by decide)
        have f_a0_X12_20 := u.1 _ _ _ _ f_a0_X12_20
        have f_a0_X12_21 := u.1 _ _ _ _ f_a0_X12_21
        have f_a0_X12_22 := u.1 _ _ _ _ f_a0_X12_22
        have f_a0_X12_35 := u.1 _ _ _ _ f_a0_X12_35
        have f_a0_X12_36 := u.1 _ _ _ _ f_a0_X12_36
        have f_a0_X12_37 := u.1 _ _ _ _ f_a0_X12_37
        have f_f0_M_said_10 := u.2.2.1 _ _ _ f_f0_M_said_10 (Or.inl (ne_k k_f0 k_v51 (by decide)))
        have f_a0_X12_34 := u.1 _ _ _ _ f_a0_X12_34
        have hMX := hMX.sm (Sm.of3 u k_v51) (by decide) (by decide)
        obtain ⟨v68, e_v68⟩ : ∃ y : Int32, y = p43_l2 + 1 := ⟨_, rfl⟩
        refine lv_iinc (v := v68) (lv' := [(2, .int v68), (0, .ref a0), (1, .int a1)]) hx hb dX12_image_68 hl (k := 2) rfl e_v68.symm (by decide) rfl (fun ls hl => ?_)
        have e_v68 : v68.toInt = p43_l2.toInt + 1 := ad_i e_v68 rfl li_1 (by omega) (by omega)
        refine lv_goto (tgt := 43) hx hb dX12_image_71 (by decide) ?_
        exact ih_43 _ _ _ _ (by omega) ⟨w_5, v68, hw, hM, (by omega), (by omega), f_a0_X12_20, f_a0_X12_21, f_a0_X12_22, f_a0_X12_35, f_a0_X12_36, f_a0_X12_37, f_f0_M_said_10, hMX, (lv_sub hl [1, 2, 0] rfl), rfl⟩
    exact J43 _ _ _ _ ⟨w_4, 0, hw, hM, (by decide), (by decide), f_a0_X12_20, f_a0_X12_21, f_a0_X12_22, f_a0_X12_35, f_a0_X12_36, f_a0_X12_37, f_f0_M_said_10, hMX, (lv_sub hl [1, 2, 0] rfl), rfl⟩
  · simp only [fa_lt, fa_le, fa_eq, li_0] at c_9
    refine lv_iconst (v := (-1)) hx hb dX12_image_12 (by decide) ?_
    rw [hQ]
    refine W.widen (k := 0) (n := 0) (Nat.le_refl _) (Nat.le_refl _) ?_
    exact W.iret (v := (-1)) hx hb hr (fun t ht hW => ⟨⟨(-1), w_1, rfl, ⟨(by decide), (by decide), hw.2.2.2.2, hM, (Or.inr ⟨fun j hj z => by omega, hMX⟩)⟩, by rw [ht]; exact hw.2.1, va_K.moved hW.alike hw.1, hw.2.2.1⟩, hw.2.2.2.1.F ht⟩) hw.2.2.2.1.2.2 dX12_image_13
set_option maxHeartbeats 4000000 in
set_option maxRecDepth 100000 in
theorem t_X12_back_x (l : Launch) (dC : Nat → ClassId) (dI : Nat → Nat → Nat) (tys : List (ClassId × FieldType)) (κ : tK) (B : Nat) (ws : va_W) (hT : Ty κ tys B ws) (a0 : Nat) (k_a0 : κ a0 = some 12) (a1 : Int32) (f0 : Nat) (k_f0 : κ f0 = some 63) (f_a0_X12_20 : fld ws a0 12 20 (.ref f0)) (f1 : Int32) (l_f1 : 0 ≤ f1.toInt) (h_f1 : f1.toInt ≤ 999) (f_f0_M_said_10 : elt ws f0 (10 : Int32).toInt.toNat f1) {x : Int32} {xs : Nat → Int32} {ms : Nat → Prop} (hMX : MXS κ ws a0 x xs ms) (sz : Nat) : Met l yX12_back (ws_u yX12_back cX12_back 3 (some .int)) ({ frames := 1, cells := 0, slots := 0, locals := 25 }) (va_Pc [.ref a0, .int a1] (cPre (dC, dI) tys ws sz)) (va_Qi (fun (r : Int32) (w : va_W) => (-1) ≤ r.toInt ∧ r.toInt ≤ 1999 ∧ Ty κ tys B w ∧ Sm [(12, 21), (12, 22), (12, 26)] [63] κ ws w ∧ (∃ (xd : Int32), 0 ≤ xd.toInt ∧ xd.toInt ≤ 999 ∧ elt w f0 (10 : Int32).toInt.toNat xd) ∧ ((∃ j : Nat, j < 4 ∧ (j : Int) = a1.toInt ∧ ms j ∧ MXS κ w a0 (xs j) xs ms) ∨ ((∀ j : Nat, j < 4 → (j : Int) = a1.toInt → ¬ ms j) ∧ MXS κ w a0 x xs ms))) (fun w t => cPost (dC, dI) tys w (va_A ws sz) t) (va_A ws sz)) 0 0 (va_A ws sz) := by
  refine Met.ofW (cc := cX12_back) (maxL := 3) (ret := (some .int)) (by decide) rfl ?_
  intro p e s m args below meth c s₁ B0 hml hv
  obtain ⟨rfl, hsz, hP, hK, hD0, hE⟩ := hv
  have hx := B0.exec
  have hb := B0.bytes
  have hr := B0.returns
  have hts0 := atoms_spec (ws := ws_u yX12_back cX12_back 3 (some .int)) B0.pre
  have hts : ∀ w ∈ gT, w.before _ s = true := fun w h => hts0 w (List.mem_cons_of_mem _ h)
  have hown : s.vm.findClass RX12 = some m.cls := findClass_of_methodNamed B0.named
  have hlocks := B0.notSynchronized
  subst hsz
  have hD := hD0.self (sz := s.heap.size)
  generalize hAe : va_A ws s.heap.size = A at hD ⊢
  have hA : ∀ q : Nat, s.heap.size ≤ q → A q := fun q h => by rw [← hAe]; exact Or.inr h
  have hw : tW (dC, dI) tys κ B A s ws s.heap [] := ⟨hK, hP, hD, va_S.rf, hT⟩
  have hM : Sm [(12, 21), (12, 22), (12, 26)] [63] κ ws ws := Sm.rf
  clear hP hK hD hD0 hts0
  have l_a1 := i32_lo a1
  have h_a1 := i32_hi a1
  have hl := lv_entry ([.ref a0, .int a1]) (n := 3) (Nat.le_of_ble_eq_true rfl)
  rw [lg_entry_eq]
  generalize (lg_sl ([.ref a0, .int a1]) ++ List.replicate (3 - (lg_sl ([.ref a0, .int a1])).length) Slot.unset).toArray = ls at hl ⊢
  have hl : lv_has ls 3 [(0, .ref a0), (1, .int a1)] := hl
  refine t_start (fun QQ hQ => ?_)
  refine lv_iload_n hx hb dX12_back_0 rfl (lv_at hl 1 rfl) ?_
  refine lv_i2l hx hb dX12_back_1 rfl ?_
  refine lv_topl (fun v1 e_v1 => ?_)
  have t_v1 : v1.toInt = a1.toInt := by rw [e_v1, Int32.toInt_toInt64]
  refine lv_lconst (v := 0) hx hb dX12_back_2 (by decide) ?_
  obtain ⟨v2, e_v2⟩ : ∃ y : Int64, y = 0 := ⟨_, rfl⟩
  refine W.eq (g2 := F0 m 3 ls [.long v2, .long v1]) (by rw [e_v2]) ?_
  have t_v2 : v2.toInt = 0 := by rw [e_v2]; decide
  refine lv_ldc2 (v := 3) hx hb hown (hts _ tw_1452) dX12_back_3 ?_
  refine lv_topl (fun v3 e_v3 => ?_)
  have t_v3 : v3.toInt = 3 := by rw [e_v3]; decide
  refine t_calli (va_runS (As := [.long v1, .long v2, .long v3]) (rest := []) ⟨hx, hb, hml, hown, hts⟩ (t_X12_in_x l dC dI tys κ B ws hw.2.2.2.2 v1 v2 v3 s.heap.size) (va_cwS 3 hts (gUS tw_1316 tw_1317 tw_13 tw_1318) rfl rfl rfl (by decide +kernel) ⟨(Nat.le_of_ble_eq_true rfl), (Nat.le_of_ble_eq_true rfl)⟩) ⟨cPre.blind, cPre.use hw.2.1 hw.1 hw.2.2.1 hE⟩ rfl rfl hl.1 rfl (lv_room (Nat.le_of_ble_eq_true rfl)) dX12_back_6 ⟨(Nat.le_of_ble_eq_true rfl), (Nat.le_of_ble_eq_true rfl)⟩) hw hA (fun _ _ h => h.2.2.1) (fun v6 w_1 H locs hp hw => ?_)
  obtain ⟨l_v6, h_v6, _, hm, x_v6_0⟩ := hp
  have hM := hM.trans hm (by decide) (by decide)
  have f_a0_X12_20 := hm.1 _ _ _ _ f_a0_X12_20 (by decide)
  have f_f0_M_said_10 := hm.elt k_f0 (by decide) f_f0_M_said_10
  have hMX := hMX.sm hm (by decide) (by decide)
  refine lv_if_eq (tgt := 21) hx hb dX12_back_9 (by decide) (fun c_9 => ?_) (fun c_9 => ?_)
  · simp only [fa_lt, fa_le, fa_eq, li_0] at c_9
    refine lv_iconst (v := (-1)) hx hb dX12_back_21 (by decide) ?_
    rw [hQ]
    refine W.widen (k := 0) (n := 0) (Nat.le_refl _) (Nat.le_refl _) ?_
    exact W.iret (v := (-1)) hx hb hr (fun t ht hW => ⟨⟨(-1), w_1, rfl, ⟨(by decide), (by decide), hw.2.2.2.2, hM, ⟨f1, (by omega), (by omega), f_f0_M_said_10⟩, (Or.inr ⟨fun j hj z => by first | (exfalso; omega) | (have hj2 : j = a1.toInt.toNat := (by omega); subst hj2; exact fun hz => hmk.mp hz c_18), hMX⟩)⟩, by rw [ht]; exact hw.2.1, va_K.moved hW.alike hw.1, hw.2.2.1⟩, hw.2.2.2.1.F ht⟩) hw.2.2.2.1.2.2 dX12_back_22
  · simp only [fa_lt, fa_le, fa_eq, li_0] at c_9
    refine lv_aload_n hx hb dX12_back_12 rfl (lv_at hl 0 rfl) ?_
    refine t_getr (k1 := 75) (ci := 12) (C := RX12) (T := TX12) (N := 38) hx hb hts iX12 hown hw k_a0 rfl rfl rfl 37 (by decide) (hts _ tw_1162) (fun _ h9 => h9) dX12_back_13 rfl (fun v13 k_v13 f_a0_X12_37 => ?_)
    refine lv_iload_n hx hb dX12_back_16 rfl (lv_at hl 1 rfl) ?_
    refine t_zald hx hb hw k_v13 rfl rfl (by omega) (show a1.toInt < 4 by omega) dX12_back_17 (fun v17 r_v17 s_v17 q_v17 => ?_)
    have l_v17 := i32_lo v17
    have h_v17 := i32_hi v17
    have hmk := hMX.gm hw.2.2.1 f_a0_X12_37 q_v17 (by omega)
    refine lv_if_ne (tgt := 23) hx hb dX12_back_18 (by decide) (fun c_18 => ?_) (fun c_18 => ?_)
    · simp only [fa_lt, fa_le, fa_eq, li_0] at c_18
      refine lv_aload_n hx hb dX12_back_23 rfl (lv_at hl 0 rfl) ?_
      refine lv_aload_n hx hb dX12_back_24 rfl (lv_at hl 0 rfl) ?_
      refine t_getr (k1 := 73) (ci := 12) (C := RX12) (T := TX12) (N := 38) hx hb hts iX12 hown hw k_a0 rfl rfl rfl 35 (by decide) (hts _ tw_1160) (fun _ h9 => h9) dX12_back_25 rfl (fun v25 k_v25 f_a0_X12_35 => ?_)
      refine lv_iload_n hx hb dX12_back_28 rfl (lv_at hl 1 rfl) ?_
      refine t_iald hx hb hw k_v25 rfl rfl (by omega) (show a1.toInt < 4 by omega) dX12_back_29 (fun v29 r_v29 s_v29 q_v29 => ?_)
      have l_v29 : (-1) ≤ v29.toInt := r_v29
      have h_v29 : v29.toInt ≤ 5 := s_v29
      refine t_put (ci := 12) (C := RX12) (T := TX12) (N := 38) (v := .int v29) hx hb hts iX12 tyX12 tyX12_ok nmX12 hown hw k_a0 rfl rfl rfl 21 (by decide) (hts _ tw_1146) (fun _ h9 => h9) rfl (tyX12_ok 21 (by decide)) rfl rfl (okV.int rfl (by omega) (by omega)) dX12_back_30 (fun w_2 H locs hw u => ?_)
      have hM := hM.up1 u (by decide)
      have f_a0_X12_20 := u.1 _ _ _ _ f_a0_X12_20 (Or.inr (Or.inr (by decide)))
      have f_f0_M_said_10 := u.elt f_f0_M_said_10
      have f_a0_X12_37 := u.1 _ _ _ _ f_a0_X12_37 (Or.inr (Or.inr (by decide)))
      have f_a0_X12_35 := u.1 _ _ _ _ f_a0_X12_35 (Or.inr (Or.inr (by decide)))
      have f_a0_X12_21 := u.2.2
      have hMX := hMX.sm (Sm.of1 u) (by decide) (by decide)
      refine lv_aload_n hx hb dX12_back_33 rfl (lv_at hl 0 rfl) ?_
      refine lv_aload_n hx hb dX12_back_34 rfl (lv_at hl 0 rfl) ?_
      refine t_getr (k1 := 74) (ci := 12) (C := RX12) (T := TX12) (N := 38) hx hb hts iX12 hown hw k_a0 rfl rfl rfl 36 (by decide) (hts _ tw_1161) (fun _ h9 => h9) dX12_back_35 rfl (fun v35 k_v35 f_a0_X12_36 => ?_)
      refine lv_iload_n hx hb dX12_back_38 rfl (lv_at hl 1 rfl) ?_
      refine t_iald hx hb hw k_v35 rfl rfl (by omega) (show a1.toInt < 4 by omega) dX12_back_39 (fun v39 r_v39 s_v39 q_v39 => ?_)
      have l_v39 := i32_lo v39
      have h_v39 := i32_hi v39
      have hxe := hMX.gx hw.2.2.1 f_a0_X12_36 q_v39 (by omega) (hmk.mpr c_18)
      refine t_put (ci := 12) (C := RX12) (T := TX12) (N := 38) (v := .int v39) hx hb hts iX12 tyX12 tyX12_ok nmX12 hown hw k_a0 rfl rfl rfl 22 (by decide) (hts _ tw_1147) (fun _ h9 => h9) rfl (tyX12_ok 22 (by decide)) rfl rfl (okV.int rfl (by omega) (by omega)) dX12_back_40 (fun w_3 H locs hw u => ?_)
      have hM := hM.up1 u (by decide)
      have f_a0_X12_20 := u.1 _ _ _ _ f_a0_X12_20 (Or.inr (Or.inr (by decide)))
      have f_f0_M_said_10 := u.elt f_f0_M_said_10
      have f_a0_X12_37 := u.1 _ _ _ _ f_a0_X12_37 (Or.inr (Or.inr (by decide)))
      have f_a0_X12_35 := u.1 _ _ _ _ f_a0_X12_35 (Or.inr (Or.inr (by decide)))
      have f_a0_X12_21 := u.1 _ _ _ _ f_a0_X12_21 (Or.inr (Or.inr (by decide)))
      have f_a0_X12_36 := u.1 _ _ _ _ f_a0_X12_36 (Or.inr (Or.inr (by decide)))
      have f_a0_X12_22 := u.2.2
      rw [hxe] at u
      have hMX := hMX.putx u
      refine lv_aload_n hx hb dX12_back_43 rfl (lv_at hl 0 rfl) ?_
      refine lv_iconst (v := 0) hx hb dX12_back_44 (by decide) ?_
      refine t_put (ci := 12) (C := RX12) (T := TX12) (N := 38) (v := .int 0) hx hb hts iX12 tyX12 tyX12_ok nmX12 hown hw k_a0 rfl rfl rfl 26 (by decide) (hts _ tw_1151) (fun _ h9 => h9) rfl (tyX12_ok 26 (by decide)) rfl rfl (okV.int rfl (by decide) (by decide)) dX12_back_45 (fun w_4 H locs hw u => ?_)
      have hM := hM.up1 u (by decide)
      have f_a0_X12_20 := u.1 _ _ _ _ f_a0_X12_20 (Or.inr (Or.inr (by decide)))
      have f_f0_M_said_10 := u.elt f_f0_M_said_10
      have f_a0_X12_37 := u.1 _ _ _ _ f_a0_X12_37 (Or.inr (Or.inr (by decide)))
      have f_a0_X12_35 := u.1 _ _ _ _ f_a0_X12_35 (Or.inr (Or.inr (by decide)))
      have f_a0_X12_21 := u.1 _ _ _ _ f_a0_X12_21 (Or.inr (Or.inr (by decide)))
      have f_a0_X12_36 := u.1 _ _ _ _ f_a0_X12_36 (Or.inr (Or.inr (by decide)))
      have f_a0_X12_22 := u.1 _ _ _ _ f_a0_X12_22 (Or.inr (Or.inr (by decide)))
      have f_a0_X12_26 := u.2.2
      have hMX := hMX.sm (Sm.of1 u) (by decide) (by decide)
      refine lv_iconst (v := 0) hx hb dX12_back_48 (by decide) ?_
      refine lv_istore_n (lv' := [(2, .int 0), (0, .ref a0), (1, .int a1)]) hx hb dX12_back_49 rfl hl (by decide) rfl (fun ls hl => ?_)
      have J50 : ∀ (n : Nat) (H : Heap) (locs : List Loc) (ls : Array Slot), (∃ (w50 : va_W) (p50_l2 : Int32), tW (dC, dI) tys κ B A s w50 H locs ∧ Sm [(12, 21), (12, 22), (12, 26)] [63] κ ws w50 ∧ 0 ≤ p50_l2.toInt ∧ p50_l2.toInt ≤ 306 ∧ fld w50 a0 12 20 (.ref f0) ∧ fld w50 a0 12 21 (.int v29) ∧ fld w50 a0 12 22 (.int v39) ∧ fld w50 a0 12 26 (.int 0) ∧ fld w50 a0 12 35 (.ref v25) ∧ fld w50 a0 12 36 (.ref v35) ∧ fld w50 a0 12 37 (.ref v13) ∧ dayOk w50 f0 p50_l2 10 ∧ MXS κ w50 a0 (xs a1.toInt.toNat) xs ms ∧ lv_has ls 3 [(0, .ref a0), (1, .int a1), (2, .int p50_l2)] ∧ (306 - p50_l2.toInt).toNat = n) → W p l e (headSpec (ws_u yX12_back cX12_back 3 (some .int)) ({ frames := 1, cells := 0, slots := 0, locals := 25 })).room s m ([.ref a0, .int a1] : List Value).toArray below meth c H locs 0 0 QQ (F0 m 50 ls []) := by
        refine loopT _ ?_
        intro n_50 H locs ls hI ih_50
        obtain ⟨w50, p50_l2, hw, hM, l_p50_l2, h_p50_l2, f_a0_X12_20, f_a0_X12_21, f_a0_X12_22, f_a0_X12_26, f_a0_X12_35, f_a0_X12_36, f_a0_X12_37, li_50_0, hMX, hl, hn_50⟩ := hI
        refine lv_iload_n hx hb dX12_back_50 rfl (lv_at hl 2 rfl) ?_
        refine lv_sipush (v := 306) hx hb dX12_back_51 (by decide) ?_
        refine lv_icmp_ge (tgt := 81) hx hb dX12_back_54 (by decide) (fun c_54 => ?_) (fun c_54 => ?_)
        · simp only [fa_lt, fa_le, fa_eq, li_306] at c_54
          refine lv_aload_n hx hb dX12_back_81 rfl (lv_at hl 0 rfl) ?_
          refine t_getk (ci := 12) (C := RX12) (T := TX12) (N := 38) hx hb hts iX12 hown hw rfl 20 (by decide) (hts _ tw_1145) (fun _ h9 => h9) dX12_back_82 f_a0_X12_20 ?_
          refine lv_bipush (v := 10) hx hb dX12_back_85 (by decide) ?_
          refine t_iald hx hb hw k_f0 rfl rfl (by decide) (by decide) dX12_back_87 (fun v87 r_v87 s_v87 f_f0_M_said_10 => ?_)
          have l_v87 : 0 ≤ v87.toInt := by rw [iv_63_10] at r_v87; exact r_v87
          have h_v87 : v87.toInt ≤ 1999 := by rw [iv_63_10] at s_v87; exact s_v87
          rw [hQ]
          refine W.widen (k := 0) (n := 0) (Nat.le_refl _) (Nat.le_refl _) ?_
          exact W.iret (v := v87) hx hb hr (fun t ht hW => ⟨⟨v87, w50, rfl, ⟨(by omega), (by omega), hw.2.2.2.2, hM, (by rcases li_50_0 with hy | ⟨d, he, h1, h2⟩; exact absurd hy (by omega); exact ⟨d, h1, h2, he⟩), (Or.inl ⟨a1.toInt.toNat, by omega, by omega, hmk.mpr c_18, hMX⟩)⟩, by rw [ht]; exact hw.2.1, va_K.moved hW.alike hw.1, hw.2.2.1⟩, hw.2.2.2.1.F ht⟩) hw.2.2.2.1.2.2 dX12_back_88
        · simp only [fa_lt, fa_le, fa_eq, li_306] at c_54
          refine lv_aload_n hx hb dX12_back_57 rfl (lv_at hl 0 rfl) ?_
          refine t_getk (ci := 12) (C := RX12) (T := TX12) (N := 38) hx hb hts iX12 hown hw rfl 20 (by decide) (hts _ tw_1145) (fun _ h9 => h9) dX12_back_58 f_a0_X12_20 ?_
          refine lv_iload_n hx hb dX12_back_61 rfl (lv_at hl 2 rfl) ?_
          refine lv_aload_n hx hb dX12_back_62 rfl (lv_at hl 0 rfl) ?_
          refine t_getr (k1 := 72) (ci := 12) (C := RX12) (T := TX12) (N := 38) hx hb hts iX12 hown hw k_a0 rfl rfl rfl 34 (by decide) (hts _ tw_1159) (fun _ h9 => h9) dX12_back_63 rfl (fun v63 k_v63 f_a0_X12_34 => ?_)
          refine lv_sipush (v := 306) hx hb dX12_back_66 (by decide) ?_
          refine lv_iload_n hx hb dX12_back_69 rfl (lv_at hl 1 rfl) ?_
          refine lv_imul hx hb dX12_back_70 ?_
          refine lv_topi (fun v70 e_v70 => ?_)
          have e_v70 : v70.toInt = 306 * a1.toInt := ml_i e_v70 li_306 rfl (by omega) (by omega)
          refine lv_iload_n hx hb dX12_back_71 rfl (lv_at hl 2 rfl) ?_
          refine lv_iadd hx hb dX12_back_72 ?_
          refine lv_topi (fun v72 e_v72 => ?_)
          have e_v72 : v72.toInt = v70.toInt + p50_l2.toInt := ad_i e_v72 rfl rfl (by omega) (by omega)
          refine t_iald hx hb hw k_v63 rfl rfl (by omega) (show v72.toInt < 1224 by omega) dX12_back_73 (fun v73 r_v73 s_v73 q_v73 => ?_)
          have l_v73 := i32_lo v73
          have h_v73 := i32_hi v73
          have hs_p50_l2 : (aiv B 63 p50_l2.toInt.toNat).1 ≤ v73.toInt ∧ v73.toInt ≤ (aiv B 63 p50_l2.toInt.toNat).2 := by
            rw [aiv_images, show v72.toInt.toNat % 306 = p50_l2.toInt.toNat by omega] at r_v73 s_v73
            rw [aiv_said]
            exact ivS_mono r_v73 s_v73
          refine t_iast hx hb hw k_f0 rfl rfl (by omega) (show p50_l2.toInt < 306 by omega) hs_p50_l2.1 hs_p50_l2.2 dX12_back_74 (fun w_5 H locs hw u => ?_)
          have hM := hM.up3 u k_f0 (by decide)
          have f_a0_X12_20 := u.1 _ _ _ _ f_a0_X12_20
          have f_a0_X12_21 := u.1 _ _ _ _ f_a0_X12_21
          have f_a0_X12_22 := u.1 _ _ _ _ f_a0_X12_22
          have f_a0_X12_26 := u.1 _ _ _ _ f_a0_X12_26
          have f_a0_X12_35 := u.1 _ _ _ _ f_a0_X12_35
          have f_a0_X12_36 := u.1 _ _ _ _ f_a0_X12_36
          have f_a0_X12_37 := u.1 _ _ _ _ f_a0_X12_37
          have f_a0_X12_34 := u.1 _ _ _ _ f_a0_X12_34
          have hMX := hMX.sm (Sm.of3 u k_f0) (by decide) (by decide)
          obtain ⟨v75, e_v75⟩ : ∃ y : Int32, y = p50_l2 + 1 := ⟨_, rfl⟩
          refine lv_iinc (v := v75) (lv' := [(2, .int v75), (0, .ref a0), (1, .int a1)]) hx hb dX12_back_75 hl (k := 2) rfl e_v75.symm (by decide) rfl (fun ls hl => ?_)
          have e_v75 : v75.toInt = p50_l2.toInt + 1 := ad_i e_v75 rfl li_1 (by omega) (by omega)
          refine lv_goto (tgt := 50) hx hb dX12_back_78 (by decide) ?_
          have hli : dayOk w_5 f0 v75 10 := by
            have e10 : (10 : Int32).toInt.toNat = 10 := by decide
            by_cases hz : p50_l2.toInt = 10
            · refine Or.inr ⟨v73, ?_, ?_, ?_⟩
              · rw [e10, show (10 : Nat) = p50_l2.toInt.toNat by omega]; exact u.2.2.2
              · rw [aiv_images, show v72.toInt.toNat % 306 = 10 by omega, ivS_10] at r_v73; exact r_v73
              · rw [aiv_images, show v72.toInt.toNat % 306 = 10 by omega, ivS_10] at s_v73; exact s_v73
            · rcases li_50_0 with hy | ⟨d, he, h1, h2⟩
              · exact Or.inl (by omega)
              · exact Or.inr ⟨d, u.2.2.1 _ _ _ he (Or.inr (by rw [e10]; omega)), h1, h2⟩
          exact ih_50 _ _ _ _ (by omega) ⟨w_5, v75, hw, hM, (by omega), (by omega), f_a0_X12_20, f_a0_X12_21, f_a0_X12_22, f_a0_X12_26, f_a0_X12_35, f_a0_X12_36, f_a0_X12_37, hli, hMX, (lv_sub hl [1, 2, 0] rfl), rfl⟩
      have hli : dayOk w_4 f0 (0 : Int32) 10 := by
        exact Or.inl (by decide)
      exact J50 _ _ _ _ ⟨w_4, 0, hw, hM, (by decide), (by decide), f_a0_X12_20, f_a0_X12_21, f_a0_X12_22, f_a0_X12_26, f_a0_X12_35, f_a0_X12_36, f_a0_X12_37, hli, hMX, (lv_sub hl [1, 2, 0] rfl), rfl⟩
    · simp only [fa_lt, fa_le, fa_eq, li_0] at c_18
      refine lv_iconst (v := (-1)) hx hb dX12_back_21 (by decide) ?_
      rw [hQ]
      refine W.widen (k := 0) (n := 0) (Nat.le_refl _) (Nat.le_refl _) ?_
      exact W.iret (v := (-1)) hx hb hr (fun t ht hW => ⟨⟨(-1), w_1, rfl, ⟨(by decide), (by decide), hw.2.2.2.2, hM, ⟨f1, (by omega), (by omega), f_f0_M_said_10⟩, (Or.inr ⟨fun j hj z => by first | (exfalso; omega) | (have hj2 : j = a1.toInt.toNat := (by omega); subst hj2; exact fun hz => hmk.mp hz c_18), hMX⟩)⟩, by rw [ht]; exact hw.2.1, va_K.moved hW.alike hw.1, hw.2.2.1⟩, hw.2.2.2.1.F ht⟩) hw.2.2.2.1.2.2 dX12_back_22
