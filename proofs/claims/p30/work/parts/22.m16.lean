set_option maxHeartbeats 4000000 in
set_option maxRecDepth 100000 in
theorem t_X7_readTest_9 (l : Launch) (dC : Nat → ClassId) (dI : Nat → Nat → Nat) (tys : List (ClassId × FieldType)) (κ : tK) (B : Nat) (ws : va_W) (hT : Ty κ tys B ws) (aK aV : Nat → Nat) (a0 : Nat) (k_a0 : κ a0 = some 7) (a1 : Int32) (l_a1 : 9 ≤ a1.toInt) (h_a1 : a1.toInt ≤ 9) (f0 : Nat) (k_f0 : κ f0 = some 9) (f_a0_X7_0 : fld ws a0 7 0 (.ref f0)) (f1 : Nat) (k_f1 : κ f1 = some 6) (f_a0_X7_1 : fld ws a0 7 1 (.ref f1)) (sz : Nat) : Met l yX7_readTest (ws_u yX7_readTest cX7_readTest 5 none) ({ frames := 11, cells := 0, slots := 0, locals := 255 }) (va_Pc [.ref a0, .int a1] (cPreS (dC, dI) aK aV tys ws sz)) (va_Qv (fun (w : va_W) => Ty κ tys B w ∧ Sm [(6, 1), (7, 2), (9, 2), (9, 3)] [38] κ ws w) (fun w t => cPost (dC, dI) tys w (va_A ws sz) t) (va_A ws sz)) 0 0 (va_A ws sz) := by
  refine Met.ofW (cc := cX7_readTest) (maxL := 5) (ret := none) (by decide) rfl ?_
  intro p e s m args below meth c s₁ B0 hml hv
  obtain ⟨rfl, ⟨hsz, hP, hK, hD0, hE⟩, hStr, hR⟩ := hv
  have hx := B0.exec
  have hb := B0.bytes
  have hr := B0.returns
  have hts0 := atoms_spec (ws := ws_u yX7_readTest cX7_readTest 5 none) B0.pre
  have hts : ∀ w ∈ gT, w.before _ s = true := fun w h => hts0 w (List.mem_cons_of_mem _ h)
  have hown : s.vm.findClass RX7 = some m.cls := findClass_of_methodNamed B0.named
  have hlocks := B0.notSynchronized
  subst hsz
  have hD := hD0.self (sz := s.heap.size)
  generalize hAe : va_A ws s.heap.size = A at hD hStr ⊢
  have hA : ∀ q : Nat, s.heap.size ≤ q → A q := fun q h => by rw [← hAe]; exact Or.inr h
  have hw : tW (dC, dI) tys κ B A s ws s.heap [] := ⟨hK, hP, hD, va_S.rf, hT⟩
  have hM : Sm [(6, 1), (7, 2), (9, 2), (9, 3)] [38] κ ws ws := Sm.rf
  clear hP hK hD hD0 hts0
  have hl := lv_entry ([.ref a0, .int a1]) (n := 5) (Nat.le_of_ble_eq_true rfl)
  rw [lg_entry_eq]
  generalize (lg_sl ([.ref a0, .int a1]) ++ List.replicate (5 - (lg_sl ([.ref a0, .int a1])).length) Slot.unset).toArray = ls at hl ⊢
  have hl : lv_has ls 5 [(0, .ref a0), (1, .int a1)] := hl
  refine t_start (fun QQ hQ => ?_)
  refine lv_iconst (v := 0) hx hb dX7_readTest_0 (by decide) ?_
  refine lv_istore_n (lv' := [(2, .int 0), (0, .ref a0), (1, .int a1)]) hx hb dX7_readTest_1 rfl hl (by decide) rfl (fun ls hl => ?_)
  refine lv_aload_n hx hb dX7_readTest_2 rfl (lv_at hl 1 rfl) ?_
  refine lv_iload_n hx hb dX7_readTest_3 rfl (lv_at hl 2 rfl) ?_
  refine t_callv (va_runV (As := [.int a1]) (rest := []) ⟨hx, hb, hml, hown, hts⟩ (t_X7_readFact_9 l dC dI tys κ B ws hw.2.2.2.2 aK aV a0 k_a0 a1 (by omega) (by omega) f0 k_f0 f_a0_X7_0 f1 k_f1 f_a0_X7_1 s.heap.size) (cwV 1 hts (gUV tw_683 tw_685 ts_0_13 tw_5 tw_686) rfl rfl rfl (by decide +kernel) ⟨(Nat.le_of_ble_eq_true rfl), (Nat.le_of_ble_eq_true rfl)⟩) ⟨cPreS.blind, t_recv hw (ci := 7) k_a0 rfl rfl, cPreS.use hw.2.1 hw.1 hw.2.2.1 hE hStr hR hw.2.2.2.1 (hw.free hA)⟩ rfl rfl hl.1 rfl (lv_room (Nat.le_of_ble_eq_true rfl)) dX7_readTest_4 ⟨(Nat.le_of_ble_eq_true rfl), (Nat.le_of_ble_eq_true rfl)⟩) hw hA (fun _ h => h.1) (fun w_1 H locs hp hw => ?_)
  obtain ⟨_, hm⟩ := hp
  have hM := hM.trans hm (by decide) (by decide)
  have f_a0_X7_0 := hm.1 _ _ _ _ f_a0_X7_0 (by decide)
  have f_a0_X7_1 := hm.1 _ _ _ _ f_a0_X7_1 (by decide)
  refine lv_iconst (v := 0) hx hb dX7_readTest_7 (by decide) ?_
  refine lv_istore_n (lv' := [(3, .int 0), (2, .int 0), (0, .ref a0), (1, .int a1)]) hx hb dX7_readTest_8 rfl hl (by decide) rfl (fun ls hl => ?_)
  have J9 : ∀ (n : Nat) (H : Heap) (locs : List Loc) (ls : Array Slot), (∃ (w9 : va_W) (p9_l2 : Int32) (p9_l3 : Int32), tW (dC, dI) tys κ B A s w9 H locs ∧ Sm [(6, 1), (7, 2), (9, 2), (9, 3)] [38] κ ws w9 ∧ 0 ≤ p9_l2.toInt ∧ p9_l2.toInt ≤ 1 ∧ 0 ≤ p9_l3.toInt ∧ p9_l3.toInt ≤ 401 ∧ fld w9 a0 7 0 (.ref f0) ∧ fld w9 a0 7 1 (.ref f1) ∧ lv_has ls 5 [(0, .ref a0), (1, .int a1), (2, .int p9_l2), (3, .int p9_l3)] ∧ (401 - p9_l3.toInt).toNat = n) → W p l e (headSpec (ws_u yX7_readTest cX7_readTest 5 none) ({ frames := 11, cells := 0, slots := 0, locals := 255 })).room s m ([.ref a0, .int a1] : List Value).toArray below meth c H locs 0 0 QQ (F0 m 9 ls []) := by
    refine loopT _ ?_
    intro n_9 H locs ls hI ih_9
    obtain ⟨w9, p9_l2, p9_l3, hw, hM, l_p9_l2, h_p9_l2, l_p9_l3, h_p9_l3, f_a0_X7_0, f_a0_X7_1, hl, hn_9⟩ := hI
    refine lv_iload_n hx hb dX7_readTest_9 rfl (lv_at hl 3 rfl) ?_
    refine lv_sipush (v := 400) hx hb dX7_readTest_10 (by decide) ?_
    have J96 : ∀ (H : Heap) (locs : List Loc) (ls : Array Slot) (w96 : va_W), tW (dC, dI) tys κ B A s w96 H locs → Sm [(6, 1), (7, 2), (9, 2), (9, 3)] [38] κ ws w96 → fld w96 a0 7 0 (.ref f0) → fld w96 a0 7 1 (.ref f1) → lv_has ls 5 [(0, .ref a0), (1, .int a1), (2, .int p9_l2), (3, .int p9_l3)] → W p l e (headSpec (ws_u yX7_readTest cX7_readTest 5 none) ({ frames := 11, cells := 0, slots := 0, locals := 255 })).room s m ([.ref a0, .int a1] : List Value).toArray below meth c H locs 0 0 QQ (F0 m 96 ls []) := by
      intro H locs ls w96 hw hM f_a0_X7_0 f_a0_X7_1 hl
      refine lv_iload_n hx hb dX7_readTest_96 rfl (lv_at hl 2 rfl) ?_
      refine lv_if_eq (tgt := 109) hx hb dX7_readTest_97 (by decide) (fun c_97 => ?_) (fun c_97 => ?_)
      · simp only [fa_lt, fa_le, fa_eq, li_0] at c_97
        rw [hQ]
        refine W.widen (k := 0) (n := 0) (Nat.le_refl _) (Nat.le_refl _) ?_
        exact W.vret hx hb hr (fun t ht hW => ⟨⟨w96, rfl, ⟨hw.2.2.2.2, hM⟩, by rw [ht]; exact hw.2.1, va_K.moved hW.alike hw.1, hw.2.2.1⟩, hw.2.2.2.1.F ht⟩) hw.2.2.2.1.2.2 dX7_readTest_109
      · simp only [fa_lt, fa_le, fa_eq, li_0] at c_97
        refine lv_aload_n hx hb dX7_readTest_100 rfl (lv_at hl 0 rfl) ?_
        refine t_getk (ci := 7) (C := RX7) (T := TX7) (N := 3) hx hb hts iX7 hown hw rfl 1 (by decide) (hts _ tw_167) (fun _ h9 => h9) dX7_readTest_101 f_a0_X7_1 ?_
        refine lv_bipush (v := (-23)) hx hb dX7_readTest_104 (by decide) ?_
        refine t_callv (va_runV (As := [.int (-23)]) (rest := []) ⟨hx, hb, hml, hown, hts⟩ (t_X6_add l dC dI tys κ B w96 hw.2.2.2.2 f1 k_f1 (-23) H.size) (cwV 1 hts (gUV tw_660 tw_661 tw_662 tw_6 tw_663) rfl rfl rfl (by decide +kernel) ⟨(Nat.le_of_ble_eq_true rfl), (Nat.le_of_ble_eq_true rfl)⟩) ⟨cPre.blind, t_recv hw (ci := 6) k_f1 rfl rfl, cPre.use hw.2.1 hw.1 hw.2.2.1 hE⟩ rfl rfl hl.1 rfl (lv_room (Nat.le_of_ble_eq_true rfl)) dX7_readTest_106 ⟨(Nat.le_of_ble_eq_true rfl), (Nat.le_of_ble_eq_true rfl)⟩) hw hA (fun _ h => h.1) (fun w_2 H locs hp hw => ?_)
        obtain ⟨_, hm⟩ := hp
        have hM := hM.trans hm (by decide) (by decide)
        have f_a0_X7_0 := hm.1 _ _ _ _ f_a0_X7_0 (by decide)
        have f_a0_X7_1 := hm.1 _ _ _ _ f_a0_X7_1 (by decide)
        rw [hQ]
        refine W.widen (k := 0) (n := 0) (Nat.le_refl _) (Nat.le_refl _) ?_
        exact W.vret hx hb hr (fun t ht hW => ⟨⟨w_2, rfl, ⟨hw.2.2.2.2, hM⟩, by rw [ht]; exact hw.2.1, va_K.moved hW.alike hw.1, hw.2.2.1⟩, hw.2.2.2.1.F ht⟩) hw.2.2.2.1.2.2 dX7_readTest_109
    refine lv_icmp_ge (tgt := 96) hx hb dX7_readTest_13 (by decide) (fun c_13 => ?_) (fun c_13 => ?_)
    · simp only [fa_lt, fa_le, fa_eq, li_400] at c_13
      exact J96 _ _ _ w9 hw hM f_a0_X7_0 f_a0_X7_1 (lv_sub hl [0, 1, 2, 3] rfl)
    · simp only [fa_lt, fa_le, fa_eq, li_400] at c_13
      refine lv_aload_n hx hb dX7_readTest_16 rfl (lv_at hl 0 rfl) ?_
      refine t_getk (ci := 7) (C := RX7) (T := TX7) (N := 3) hx hb hts iX7 hown hw rfl 0 (by decide) (hts _ tw_166) (fun _ h9 => h9) dX7_readTest_17 f_a0_X7_0 ?_
      refine va_ldcS hx hb hown hR.2.1 dX7_readTest_20 ?_
      refine t_calli (va_runV (As := [.ref (aK 1)]) (rest := []) ⟨hx, hb, hml, hown, hts⟩ (t_X9_takeWord l dC dI tys κ B w9 hw.2.2.2.2 aK aV f0 k_f0 1 (by decide) H.size) (cwV 1 hts (gUV tw_643 tw_506 tw_507 tw_2 tw_508) rfl rfl rfl (by decide +kernel) ⟨(Nat.le_of_ble_eq_true rfl), (Nat.le_of_ble_eq_true rfl)⟩) ⟨cPreS.blind, t_recv hw (ci := 9) k_f0 rfl rfl, cPreS.use hw.2.1 hw.1 hw.2.2.1 hE hStr hR hw.2.2.2.1 (hw.free hA)⟩ rfl rfl hl.1 rfl (lv_room (Nat.le_of_ble_eq_true rfl)) dX7_readTest_22 ⟨(Nat.le_of_ble_eq_true rfl), (Nat.le_of_ble_eq_true rfl)⟩) hw hA (fun _ _ h => h.1) (fun v22 w_3 H locs hp hw => ?_)
      obtain ⟨_, hm⟩ := hp
      have l_v22 := i32_lo v22
      have h_v22 := i32_hi v22
      have hM := hM.trans hm (by decide) (by decide)
      have f_a0_X7_0 := hm.1 _ _ _ _ f_a0_X7_0 (by decide)
      have f_a0_X7_1 := hm.1 _ _ _ _ f_a0_X7_1 (by decide)
      refine lv_istore (lv' := [(4, .int v22), (0, .ref a0), (1, .int a1), (2, .int p9_l2), (3, .int p9_l3)]) hx hb dX7_readTest_25 hl (by decide) rfl (fun ls hl => ?_)
      refine lv_iload hx hb dX7_readTest_27 (lv_at hl 0 rfl) ?_
      refine lv_iconst (v := (-1)) hx hb dX7_readTest_29 (by decide) ?_
      refine lv_icmp_ne (tgt := 36) hx hb dX7_readTest_30 (by decide) (fun c_30 => ?_) (fun c_30 => ?_)
      · simp only [fa_lt, fa_le, fa_eq, li_m1] at c_30
        refine lv_iload hx hb dX7_readTest_36 (lv_at hl 0 rfl) ?_
        refine lv_iconst (v := 1) hx hb dX7_readTest_38 (by decide) ?_
        have J55 : ∀ (H : Heap) (locs : List Loc) (ls : Array Slot) (w55 : va_W), tW (dC, dI) tys κ B A s w55 H locs → Sm [(6, 1), (7, 2), (9, 2), (9, 3)] [38] κ ws w55 → fld w55 a0 7 0 (.ref f0) → fld w55 a0 7 1 (.ref f1) → lv_has ls 5 [(0, .ref a0), (1, .int a1), (2, .int p9_l2), (3, .int p9_l3), (4, .int v22)] → W p l e (headSpec (ws_u yX7_readTest cX7_readTest 5 none) ({ frames := 11, cells := 0, slots := 0, locals := 255 })).room s m ([.ref a0, .int a1] : List Value).toArray below meth c H locs 0 0 QQ (F0 m 55 ls []) := by
          intro H locs ls w55 hw hM f_a0_X7_0 f_a0_X7_1 hl
          refine lv_iload_n hx hb dX7_readTest_55 rfl (lv_at hl 2 rfl) ?_
          have J70 : ∀ (H : Heap) (locs : List Loc) (ls : Array Slot) (w70 : va_W) (p70_s0 : Int32), tW (dC, dI) tys κ B A s w70 H locs → Sm [(6, 1), (7, 2), (9, 2), (9, 3)] [38] κ ws w70 → 0 ≤ p70_s0.toInt → p70_s0.toInt ≤ 1 → fld w70 a0 7 0 (.ref f0) → fld w70 a0 7 1 (.ref f1) → lv_has ls 5 [(0, .ref a0), (1, .int a1), (2, .int p9_l2), (3, .int p9_l3), (4, .int v22)] → W p l e (headSpec (ws_u yX7_readTest cX7_readTest 5 none) ({ frames := 11, cells := 0, slots := 0, locals := 255 })).room s m ([.ref a0, .int a1] : List Value).toArray below meth c H locs 0 0 QQ (F0 m 70 ls [.int p70_s0]) := by
            intro H locs ls w70 p70_s0 hw hM l_p70_s0 h_p70_s0 f_a0_X7_0 f_a0_X7_1 hl
            refine lv_istore_n (lv' := [(2, .int p70_s0), (0, .ref a0), (1, .int a1), (3, .int p9_l3), (4, .int v22)]) hx hb dX7_readTest_70 rfl hl (by decide) rfl (fun ls hl => ?_)
            refine lv_aload_n hx hb dX7_readTest_71 rfl (lv_at hl 1 rfl) ?_
            refine lv_iload_n hx hb dX7_readTest_72 rfl (lv_at hl 2 rfl) ?_
            refine t_callv (va_runV (As := [.int a1]) (rest := []) ⟨hx, hb, hml, hown, hts⟩ (t_X7_readFact_9 l dC dI tys κ B w70 hw.2.2.2.2 aK aV a0 k_a0 a1 (by omega) (by omega) f0 k_f0 f_a0_X7_0 f1 k_f1 f_a0_X7_1 H.size) (cwV 1 hts (gUV tw_683 tw_685 ts_0_13 tw_5 tw_686) rfl rfl rfl (by decide +kernel) ⟨(Nat.le_of_ble_eq_true rfl), (Nat.le_of_ble_eq_true rfl)⟩) ⟨cPreS.blind, t_recv hw (ci := 7) k_a0 rfl rfl, cPreS.use hw.2.1 hw.1 hw.2.2.1 hE hStr hR hw.2.2.2.1 (hw.free hA)⟩ rfl rfl hl.1 rfl (lv_room (Nat.le_of_ble_eq_true rfl)) dX7_readTest_73 ⟨(Nat.le_of_ble_eq_true rfl), (Nat.le_of_ble_eq_true rfl)⟩) hw hA (fun _ h => h.1) (fun w_4 H locs hp hw => ?_)
            obtain ⟨_, hm⟩ := hp
            have hM := hM.trans hm (by decide) (by decide)
            have f_a0_X7_0 := hm.1 _ _ _ _ f_a0_X7_0 (by decide)
            have f_a0_X7_1 := hm.1 _ _ _ _ f_a0_X7_1 (by decide)
            refine lv_iload hx hb dX7_readTest_76 (lv_at hl 4 rfl) ?_
            have J90 : ∀ (H : Heap) (locs : List Loc) (ls : Array Slot) (w90 : va_W), tW (dC, dI) tys κ B A s w90 H locs → Sm [(6, 1), (7, 2), (9, 2), (9, 3)] [38] κ ws w90 → fld w90 a0 7 0 (.ref f0) → fld w90 a0 7 1 (.ref f1) → lv_has ls 5 [(0, .ref a0), (1, .int a1), (2, .int p70_s0), (3, .int p9_l3), (4, .int v22)] → W p l e (headSpec (ws_u yX7_readTest cX7_readTest 5 none) ({ frames := 11, cells := 0, slots := 0, locals := 255 })).room s m ([.ref a0, .int a1] : List Value).toArray below meth c H locs 0 0 QQ (F0 m 90 ls []) := by
              intro H locs ls w90 hw hM f_a0_X7_0 f_a0_X7_1 hl
              obtain ⟨v90, e_v90⟩ : ∃ y : Int32, y = p9_l3 + 1 := ⟨_, rfl⟩
              refine lv_iinc (v := v90) (lv' := [(3, .int v90), (0, .ref a0), (1, .int a1), (2, .int p70_s0), (4, .int v22)]) hx hb dX7_readTest_90 hl (k := 3) rfl e_v90.symm (by decide) rfl (fun ls hl => ?_)
              have e_v90 : v90.toInt = p9_l3.toInt + 1 := ad_i e_v90 rfl li_1 (by omega) (by omega)
              refine lv_goto (tgt := 9) hx hb dX7_readTest_93 (by decide) ?_
              exact ih_9 _ _ _ _ (by omega) ⟨w90, p70_s0, v90, hw, hM, (by omega), (by omega), (by omega), (by omega), f_a0_X7_0, f_a0_X7_1, (lv_sub hl [1, 2, 3, 0] rfl), rfl⟩
            refine lv_if_ne (tgt := 90) hx hb dX7_readTest_78 (by decide) (fun c_78 => ?_) (fun c_78 => ?_)
            · simp only [fa_lt, fa_le, fa_eq, li_0] at c_78
              exact J90 _ _ _ w_4 hw hM f_a0_X7_0 f_a0_X7_1 (lv_sub hl [1, 2, 0, 3, 4] rfl)
            · simp only [fa_lt, fa_le, fa_eq, li_0] at c_78
              refine lv_aload_n hx hb dX7_readTest_81 rfl (lv_at hl 1 rfl) ?_
              refine t_getk (ci := 7) (C := RX7) (T := TX7) (N := 3) hx hb hts iX7 hown hw rfl 1 (by decide) (hts _ tw_167) (fun _ h9 => h9) dX7_readTest_82 f_a0_X7_1 ?_
              refine lv_bipush (v := (-22)) hx hb dX7_readTest_85 (by decide) ?_
              refine t_callv (va_runV (As := [.int (-22)]) (rest := []) ⟨hx, hb, hml, hown, hts⟩ (t_X6_add l dC dI tys κ B w_4 hw.2.2.2.2 f1 k_f1 (-22) H.size) (cwV 1 hts (gUV tw_660 tw_661 tw_662 tw_6 tw_663) rfl rfl rfl (by decide +kernel) ⟨(Nat.le_of_ble_eq_true rfl), (Nat.le_of_ble_eq_true rfl)⟩) ⟨cPre.blind, t_recv hw (ci := 6) k_f1 rfl rfl, cPre.use hw.2.1 hw.1 hw.2.2.1 hE⟩ rfl rfl hl.1 rfl (lv_room (Nat.le_of_ble_eq_true rfl)) dX7_readTest_87 ⟨(Nat.le_of_ble_eq_true rfl), (Nat.le_of_ble_eq_true rfl)⟩) hw hA (fun _ h => h.1) (fun w_5 H locs hp hw => ?_)
              obtain ⟨_, hm⟩ := hp
              have hM := hM.trans hm (by decide) (by decide)
              have f_a0_X7_0 := hm.1 _ _ _ _ f_a0_X7_0 (by decide)
              have f_a0_X7_1 := hm.1 _ _ _ _ f_a0_X7_1 (by decide)
              exact J90 _ _ _ w_5 hw hM f_a0_X7_0 f_a0_X7_1 (lv_sub hl [1, 2, 0, 3, 4] rfl)
          have J65 : ∀ (H : Heap) (locs : List Loc) (ls : Array Slot) (w65 : va_W), tW (dC, dI) tys κ B A s w65 H locs → Sm [(6, 1), (7, 2), (9, 2), (9, 3)] [38] κ ws w65 → fld w65 a0 7 0 (.ref f0) → fld w65 a0 7 1 (.ref f1) → lv_has ls 5 [(0, .ref a0), (1, .int a1), (2, .int p9_l2), (3, .int p9_l3), (4, .int v22)] → W p l e (headSpec (ws_u yX7_readTest cX7_readTest 5 none) ({ frames := 11, cells := 0, slots := 0, locals := 255 })).room s m ([.ref a0, .int a1] : List Value).toArray below meth c H locs 0 0 QQ (F0 m 65 ls []) := by
            intro H locs ls w65 hw hM f_a0_X7_0 f_a0_X7_1 hl
            refine lv_iconst (v := 1) hx hb dX7_readTest_65 (by decide) ?_
            refine lv_goto (tgt := 70) hx hb dX7_readTest_66 (by decide) ?_
            exact J70 _ _ _ w65 1 hw hM (by decide) (by decide) f_a0_X7_0 f_a0_X7_1 (lv_sub hl [0, 1, 2, 3, 4] rfl)
          refine lv_if_ne (tgt := 65) hx hb dX7_readTest_56 (by decide) (fun c_56 => ?_) (fun c_56 => ?_)
          · simp only [fa_lt, fa_le, fa_eq, li_0] at c_56
            exact J65 _ _ _ w55 hw hM f_a0_X7_0 f_a0_X7_1 (lv_sub hl [0, 1, 2, 3, 4] rfl)
          · simp only [fa_lt, fa_le, fa_eq, li_0] at c_56
            refine lv_iload hx hb dX7_readTest_59 (lv_at hl 4 rfl) ?_
            refine lv_iconst (v := 1) hx hb dX7_readTest_61 (by decide) ?_
            refine lv_icmp_ne (tgt := 69) hx hb dX7_readTest_62 (by decide) (fun c_62 => ?_) (fun c_62 => ?_)
            · simp only [fa_lt, fa_le, fa_eq, li_1] at c_62
              refine lv_iconst (v := 0) hx hb dX7_readTest_69 (by decide) ?_
              exact J70 _ _ _ w55 0 hw hM (by decide) (by decide) f_a0_X7_0 f_a0_X7_1 (lv_sub hl [0, 1, 2, 3, 4] rfl)
            · simp only [fa_lt, fa_le, fa_eq, li_1] at c_62
              exact J65 _ _ _ w55 hw hM f_a0_X7_0 f_a0_X7_1 (lv_sub hl [0, 1, 2, 3, 4] rfl)
        refine lv_icmp_ne (tgt := 55) hx hb dX7_readTest_39 (by decide) (fun c_39 => ?_) (fun c_39 => ?_)
        · simp only [fa_lt, fa_le, fa_eq, li_1] at c_39
          exact J55 _ _ _ w_3 hw hM f_a0_X7_0 f_a0_X7_1 (lv_sub hl [1, 2, 3, 4, 0] rfl)
        · simp only [fa_lt, fa_le, fa_eq, li_1] at c_39
          refine lv_iload_n hx hb dX7_readTest_42 rfl (lv_at hl 3 rfl) ?_
          refine lv_if_eq (tgt := 55) hx hb dX7_readTest_43 (by decide) (fun c_43 => ?_) (fun c_43 => ?_)
          · simp only [fa_lt, fa_le, fa_eq, li_0] at c_43
            exact J55 _ _ _ w_3 hw hM f_a0_X7_0 f_a0_X7_1 (lv_sub hl [1, 2, 3, 4, 0] rfl)
          · simp only [fa_lt, fa_le, fa_eq, li_0] at c_43
            refine lv_aload_n hx hb dX7_readTest_46 rfl (lv_at hl 1 rfl) ?_
            refine t_getk (ci := 7) (C := RX7) (T := TX7) (N := 3) hx hb hts iX7 hown hw rfl 1 (by decide) (hts _ tw_167) (fun _ h9 => h9) dX7_readTest_47 f_a0_X7_1 ?_
            refine lv_bipush (v := (-23)) hx hb dX7_readTest_50 (by decide) ?_
            refine t_callv (va_runV (As := [.int (-23)]) (rest := []) ⟨hx, hb, hml, hown, hts⟩ (t_X6_add l dC dI tys κ B w_3 hw.2.2.2.2 f1 k_f1 (-23) H.size) (cwV 1 hts (gUV tw_660 tw_661 tw_662 tw_6 tw_663) rfl rfl rfl (by decide +kernel) ⟨(Nat.le_of_ble_eq_true rfl), (Nat.le_of_ble_eq_true rfl)⟩) ⟨cPre.blind, t_recv hw (ci := 6) k_f1 rfl rfl, cPre.use hw.2.1 hw.1 hw.2.2.1 hE⟩ rfl rfl hl.1 rfl (lv_room (Nat.le_of_ble_eq_true rfl)) dX7_readTest_52 ⟨(Nat.le_of_ble_eq_true rfl), (Nat.le_of_ble_eq_true rfl)⟩) hw hA (fun _ h => h.1) (fun w_6 H locs hp hw => ?_)
            obtain ⟨_, hm⟩ := hp
            have hM := hM.trans hm (by decide) (by decide)
            have f_a0_X7_0 := hm.1 _ _ _ _ f_a0_X7_0 (by decide)
            have f_a0_X7_1 := hm.1 _ _ _ _ f_a0_X7_1 (by decide)
            exact J55 _ _ _ w_6 hw hM f_a0_X7_0 f_a0_X7_1 (lv_sub hl [1, 2, 3, 4, 0] rfl)
      · simp only [fa_lt, fa_le, fa_eq, li_m1] at c_30
        refine lv_goto (tgt := 96) hx hb dX7_readTest_33 (by decide) ?_
        exact J96 _ _ _ w_3 hw hM f_a0_X7_0 f_a0_X7_1 (lv_sub hl [1, 2, 3, 4] rfl)
  exact J9 _ _ _ _ ⟨w_1, 0, 0, hw, hM, (by decide), (by decide), (by decide), (by decide), f_a0_X7_0, f_a0_X7_1, (lv_sub hl [2, 3, 1, 0] rfl), rfl⟩
set_option maxHeartbeats 4000000 in
set_option maxRecDepth 100000 in
theorem t_X7_readFact_8 (l : Launch) (dC : Nat → ClassId) (dI : Nat → Nat → Nat) (tys : List (ClassId × FieldType)) (κ : tK) (B : Nat) (ws : va_W) (hT : Ty κ tys B ws) (aK aV : Nat → Nat) (a0 : Nat) (k_a0 : κ a0 = some 7) (a1 : Int32) (l_a1 : 8 ≤ a1.toInt) (h_a1 : a1.toInt ≤ 8) (f0 : Nat) (k_f0 : κ f0 = some 9) (f_a0_X7_0 : fld ws a0 7 0 (.ref f0)) (f1 : Nat) (k_f1 : κ f1 = some 6) (f_a0_X7_1 : fld ws a0 7 1 (.ref f1)) (sz : Nat) : Met l yX7_readFact (ws_u yX7_readFact cX7_readFact 6 none) ({ frames := 12, cells := 0, slots := 0, locals := 279 }) (va_Pc [.ref a0, .int a1] (cPreS (dC, dI) aK aV tys ws sz)) (va_Qv (fun (w : va_W) => Ty κ tys B w ∧ Sm [(6, 1), (7, 2), (9, 2), (9, 3)] [38] κ ws w) (fun w t => cPost (dC, dI) tys w (va_A ws sz) t) (va_A ws sz)) 0 0 (va_A ws sz) := by
  refine Met.ofW (cc := cX7_readFact) (maxL := 6) (ret := none) (by decide) rfl ?_
  intro p e s m args below meth c s₁ B0 hml hv
  obtain ⟨rfl, ⟨hsz, hP, hK, hD0, hE⟩, hStr, hR⟩ := hv
  have hx := B0.exec
  have hb := B0.bytes
  have hr := B0.returns
  have hts0 := atoms_spec (ws := ws_u yX7_readFact cX7_readFact 6 none) B0.pre
  have hts : ∀ w ∈ gT, w.before _ s = true := fun w h => hts0 w (List.mem_cons_of_mem _ h)
  have hown : s.vm.findClass RX7 = some m.cls := findClass_of_methodNamed B0.named
  have hlocks := B0.notSynchronized
  subst hsz
  have hD := hD0.self (sz := s.heap.size)
  generalize hAe : va_A ws s.heap.size = A at hD hStr ⊢
  have hA : ∀ q : Nat, s.heap.size ≤ q → A q := fun q h => by rw [← hAe]; exact Or.inr h
  have hw : tW (dC, dI) tys κ B A s ws s.heap [] := ⟨hK, hP, hD, va_S.rf, hT⟩
  have hM : Sm [(6, 1), (7, 2), (9, 2), (9, 3)] [38] κ ws ws := Sm.rf
  clear hP hK hD hD0 hts0
  have hl := lv_entry ([.ref a0, .int a1]) (n := 6) (Nat.le_of_ble_eq_true rfl)
  rw [lg_entry_eq]
  generalize (lg_sl ([.ref a0, .int a1]) ++ List.replicate (6 - (lg_sl ([.ref a0, .int a1])).length) Slot.unset).toArray = ls at hl ⊢
  have hl : lv_has ls 6 [(0, .ref a0), (1, .int a1)] := hl
  refine t_start (fun QQ hQ => ?_)
  refine lv_aload_n hx hb dX7_readFact_0 rfl (lv_at hl 0 rfl) ?_
  refine t_getk (ci := 7) (C := RX7) (T := TX7) (N := 3) hx hb hts iX7 hown hw rfl 0 (by decide) (hts _ tw_166) (fun _ h9 => h9) dX7_readFact_1 f_a0_X7_0 ?_
  refine t_geti (ci := 9) (C := RX9) (T := TX9) (N := 4) hx hb hts iX9 hown hw k_f0 rfl rfl rfl 2 (by decide) (hts _ tw_39) (fun _ h9 => h9) dX7_readFact_4 rfl (fun v4 l_v4 h_v4 f_f0_X9_2 => ?_)
  have l_v4 : 0 ≤ v4.toInt := l_v4
  have h_v4 : v4.toInt ≤ 400 := h_v4
  refine lv_istore_n (lv' := [(2, .int v4), (0, .ref a0), (1, .int a1)]) hx hb dX7_readFact_7 rfl hl (by decide) rfl (fun ls hl => ?_)
  refine lv_aload_n hx hb dX7_readFact_8 rfl (lv_at hl 1 rfl) ?_
  refine t_getk (ci := 7) (C := RX7) (T := TX7) (N := 3) hx hb hts iX7 hown hw rfl 0 (by decide) (hts _ tw_166) (fun _ h9 => h9) dX7_readFact_9 f_a0_X7_0 ?_
  refine va_ldcS hx hb hown hR.2.2.2.1 dX7_readFact_12 ?_
  refine t_calli (va_runV (As := [.ref (aK 3)]) (rest := []) ⟨hx, hb, hml, hown, hts⟩ (t_X9_takeWord l dC dI tys κ B ws hw.2.2.2.2 aK aV f0 k_f0 3 (by decide) s.heap.size) (cwV 1 hts (gUV tw_643 tw_506 tw_507 tw_2 tw_508) rfl rfl rfl (by decide +kernel) ⟨(Nat.le_of_ble_eq_true rfl), (Nat.le_of_ble_eq_true rfl)⟩) ⟨cPreS.blind, t_recv hw (ci := 9) k_f0 rfl rfl, cPreS.use hw.2.1 hw.1 hw.2.2.1 hE hStr hR hw.2.2.2.1 (hw.free hA)⟩ rfl rfl hl.1 rfl (lv_room (Nat.le_of_ble_eq_true rfl)) dX7_readFact_14 ⟨(Nat.le_of_ble_eq_true rfl), (Nat.le_of_ble_eq_true rfl)⟩) hw hA (fun _ _ h => h.1) (fun v14 w_1 H locs hp hw => ?_)
  obtain ⟨_, hm⟩ := hp
  have l_v14 := i32_lo v14
  have h_v14 := i32_hi v14
  have hM := hM.trans hm (by decide) (by decide)
  have f_a0_X7_0 := hm.1 _ _ _ _ f_a0_X7_0 (by decide)
  have f_a0_X7_1 := hm.1 _ _ _ _ f_a0_X7_1 (by decide)
  refine lv_iconst (v := (-1)) hx hb dX7_readFact_17 (by decide) ?_
  refine lv_icmp_eq (tgt := 25) hx hb dX7_readFact_18 (by decide) (fun c_18 => ?_) (fun c_18 => ?_)
  · simp only [fa_lt, fa_le, fa_eq, li_m1] at c_18
    refine lv_iconst (v := 0) hx hb dX7_readFact_25 (by decide) ?_
    refine lv_istore_n (lv' := [(3, .int 0), (2, .int v4), (0, .ref a0), (1, .int a1)]) hx hb dX7_readFact_26 rfl hl (by decide) rfl (fun ls hl => ?_)
    refine lv_iload_n hx hb dX7_readFact_27 rfl (lv_at hl 0 rfl) ?_
    refine lv_if_ne (tgt := 47) hx hb dX7_readFact_28 (by decide) (fun c_28 => absurd c_28 (by decide)) (fun _ => ?_)
    refine lv_aload_n hx hb dX7_readFact_31 rfl (lv_at hl 2 rfl) ?_
    refine t_getk (ci := 7) (C := RX7) (T := TX7) (N := 3) hx hb hts iX7 hown hw rfl 0 (by decide) (hts _ tw_166) (fun _ h9 => h9) dX7_readFact_32 f_a0_X7_0 ?_
    refine lv_bipush (v := 91) hx hb dX7_readFact_35 (by decide) ?_
    refine t_calli (va_runV (As := [.int 91]) (rest := []) ⟨hx, hb, hml, hown, hts⟩ (t_X9_takeSign l dC dI tys κ B w_1 hw.2.2.2.2 f0 k_f0 91 (by decide) (by decide) H.size) (cwV 1 hts (gUV tw_673 tw_603 tw_604 tw_2 tw_605) rfl rfl rfl (by decide +kernel) ⟨(Nat.le_of_ble_eq_true rfl), (Nat.le_of_ble_eq_true rfl)⟩) ⟨cPre.blind, t_recv hw (ci := 9) k_f0 rfl rfl, cPre.use hw.2.1 hw.1 hw.2.2.1 hE⟩ rfl rfl hl.1 rfl (lv_room (Nat.le_of_ble_eq_true rfl)) dX7_readFact_37 ⟨(Nat.le_of_ble_eq_true rfl), (Nat.le_of_ble_eq_true rfl)⟩) hw hA (fun _ _ h => h.2.2.1) (fun v37 w_2 H locs hp hw => ?_)
    obtain ⟨l_v37, h_v37, _, hm⟩ := hp
    have hM := hM.trans hm (by decide) (by decide)
    have f_a0_X7_0 := hm.1 _ _ _ _ f_a0_X7_0 (by decide)
    have f_a0_X7_1 := hm.1 _ _ _ _ f_a0_X7_1 (by decide)
    refine lv_if_eq (tgt := 47) hx hb dX7_readFact_40 (by decide) (fun c_40 => ?_) (fun c_40 => ?_)
    · simp only [fa_lt, fa_le, fa_eq, li_0] at c_40
      refine lv_iconst (v := 0) hx hb dX7_readFact_47 (by decide) ?_
      refine lv_istore (lv' := [(4, .int 0), (3, .int 0), (2, .int v4), (0, .ref a0), (1, .int a1)]) hx hb dX7_readFact_48 hl (by decide) rfl (fun ls hl => ?_)
      refine lv_iload_n hx hb dX7_readFact_50 rfl (lv_at hl 1 rfl) ?_
      refine lv_if_ne (tgt := 59) hx hb dX7_readFact_51 (by decide) (fun c_51 => absurd c_51 (by decide)) (fun _ => ?_)
      refine lv_iload hx hb dX7_readFact_54 (lv_at hl 0 rfl) ?_
      refine lv_if_eq (tgt := 77) hx hb dX7_readFact_56 (by decide) (fun _ => ?_) (fun c_56 => absurd c_56 (by decide))
      refine lv_iload_n hx hb dX7_readFact_77 rfl (lv_at hl 1 rfl) ?_
      refine lv_if_eq (tgt := 100) hx hb dX7_readFact_78 (by decide) (fun _ => ?_) (fun c_78 => absurd c_78 (by decide))
      refine lv_iload hx hb dX7_readFact_100 (lv_at hl 0 rfl) ?_
      refine lv_if_eq (tgt := 142) hx hb dX7_readFact_102 (by decide) (fun _ => ?_) (fun c_102 => absurd c_102 (by decide))
      refine lv_aload_n hx hb dX7_readFact_142 rfl (lv_at hl 3 rfl) ?_
      refine t_callv (va_runV (As := []) (rest := []) ⟨hx, hb, hml, hown, hts⟩ (t_X7_readSum l dC dI tys κ B w_2 hw.2.2.2.2 aK aV a0 k_a0 f0 k_f0 f_a0_X7_0 f1 k_f1 f_a0_X7_1 H.size) (cwV 0 hts (gUV tw_649 tw_651 ts_0_8 tw_5 tw_652) rfl rfl rfl (by decide +kernel) ⟨(Nat.le_of_ble_eq_true rfl), (Nat.le_of_ble_eq_true rfl)⟩) ⟨cPreS.blind, t_recv hw (ci := 7) k_a0 rfl rfl, cPreS.use hw.2.1 hw.1 hw.2.2.1 hE hStr hR hw.2.2.2.1 (hw.free hA)⟩ rfl rfl hl.1 rfl (lv_room (Nat.le_of_ble_eq_true rfl)) dX7_readFact_143 ⟨(Nat.le_of_ble_eq_true rfl), (Nat.le_of_ble_eq_true rfl)⟩) hw hA (fun _ h => h.1) (fun w_3 H locs hp hw => ?_)
      obtain ⟨_, hm⟩ := hp
      have hM := hM.trans hm (by decide) (by decide)
      have f_a0_X7_0 := hm.1 _ _ _ _ f_a0_X7_0 (by decide)
      have f_a0_X7_1 := hm.1 _ _ _ _ f_a0_X7_1 (by decide)
      refine lv_aload_n hx hb dX7_readFact_146 rfl (lv_at hl 3 rfl) ?_
      refine t_calli (va_runV (As := []) (rest := []) ⟨hx, hb, hml, hown, hts⟩ (t_X7_readSign l dC dI tys κ B w_3 hw.2.2.2.2 a0 k_a0 f0 k_f0 f_a0_X7_0 H.size) (cwV 0 hts (gUV tw_688 tw_690 ts_0_14 tw_5 tw_691) rfl rfl rfl (by decide +kernel) ⟨(Nat.le_of_ble_eq_true rfl), (Nat.le_of_ble_eq_true rfl)⟩) ⟨cPre.blind, t_recv hw (ci := 7) k_a0 rfl rfl, cPre.use hw.2.1 hw.1 hw.2.2.1 hE⟩ rfl rfl hl.1 rfl (lv_room (Nat.le_of_ble_eq_true rfl)) dX7_readFact_147 ⟨(Nat.le_of_ble_eq_true rfl), (Nat.le_of_ble_eq_true rfl)⟩) hw hA (fun _ _ h => h.2.2.1) (fun v147 w_4 H locs hp hw => ?_)
      obtain ⟨l_v147, h_v147, _, hm⟩ := hp
      have hM := hM.trans hm (by decide) (by decide)
      have f_a0_X7_0 := hm.1 _ _ _ _ f_a0_X7_0 (by decide)
      have f_a0_X7_1 := hm.1 _ _ _ _ f_a0_X7_1 (by decide)
      refine lv_istore (lv' := [(5, .int v147), (4, .int 0), (3, .int 0), (2, .int v4), (0, .ref a0), (1, .int a1)]) hx hb dX7_readFact_150 hl (by decide) rfl (fun ls hl => ?_)
      refine lv_aload_n hx hb dX7_readFact_152 rfl (lv_at hl 4 rfl) ?_
      refine t_callv (va_runV (As := []) (rest := []) ⟨hx, hb, hml, hown, hts⟩ (t_X7_readSum l dC dI tys κ B w_4 hw.2.2.2.2 aK aV a0 k_a0 f0 k_f0 f_a0_X7_0 f1 k_f1 f_a0_X7_1 H.size) (cwV 0 hts (gUV tw_649 tw_651 ts_0_8 tw_5 tw_652) rfl rfl rfl (by decide +kernel) ⟨(Nat.le_of_ble_eq_true rfl), (Nat.le_of_ble_eq_true rfl)⟩) ⟨cPreS.blind, t_recv hw (ci := 7) k_a0 rfl rfl, cPreS.use hw.2.1 hw.1 hw.2.2.1 hE hStr hR hw.2.2.2.1 (hw.free hA)⟩ rfl rfl hl.1 rfl (lv_room (Nat.le_of_ble_eq_true rfl)) dX7_readFact_153 ⟨(Nat.le_of_ble_eq_true rfl), (Nat.le_of_ble_eq_true rfl)⟩) hw hA (fun _ h => h.1) (fun w_5 H locs hp hw => ?_)
      obtain ⟨_, hm⟩ := hp
      have hM := hM.trans hm (by decide) (by decide)
      have f_a0_X7_0 := hm.1 _ _ _ _ f_a0_X7_0 (by decide)
      have f_a0_X7_1 := hm.1 _ _ _ _ f_a0_X7_1 (by decide)
      refine lv_aload_n hx hb dX7_readFact_156 rfl (lv_at hl 4 rfl) ?_
      refine t_getk (ci := 7) (C := RX7) (T := TX7) (N := 3) hx hb hts iX7 hown hw rfl 1 (by decide) (hts _ tw_167) (fun _ h9 => h9) dX7_readFact_157 f_a0_X7_1 ?_
      refine lv_iload hx hb dX7_readFact_160 (lv_at hl 0 rfl) ?_
      refine t_callv (va_runV (As := [.int v147]) (rest := []) ⟨hx, hb, hml, hown, hts⟩ (t_X6_add l dC dI tys κ B w_5 hw.2.2.2.2 f1 k_f1 v147 H.size) (cwV 1 hts (gUV tw_660 tw_661 tw_662 tw_6 tw_663) rfl rfl rfl (by decide +kernel) ⟨(Nat.le_of_ble_eq_true rfl), (Nat.le_of_ble_eq_true rfl)⟩) ⟨cPre.blind, t_recv hw (ci := 6) k_f1 rfl rfl, cPre.use hw.2.1 hw.1 hw.2.2.1 hE⟩ rfl rfl hl.1 rfl (lv_room (Nat.le_of_ble_eq_true rfl)) dX7_readFact_162 ⟨(Nat.le_of_ble_eq_true rfl), (Nat.le_of_ble_eq_true rfl)⟩) hw hA (fun _ h => h.1) (fun w_6 H locs hp hw => ?_)
      obtain ⟨_, hm⟩ := hp
      have hM := hM.trans hm (by decide) (by decide)
      have f_a0_X7_0 := hm.1 _ _ _ _ f_a0_X7_0 (by decide)
      have f_a0_X7_1 := hm.1 _ _ _ _ f_a0_X7_1 (by decide)
      rw [hQ]
      refine W.widen (k := 0) (n := 0) (Nat.le_refl _) (Nat.le_refl _) ?_
      exact W.vret hx hb hr (fun t ht hW => ⟨⟨w_6, rfl, ⟨hw.2.2.2.2, hM⟩, by rw [ht]; exact hw.2.1, va_K.moved hW.alike hw.1, hw.2.2.1⟩, hw.2.2.2.1.F ht⟩) hw.2.2.2.1.2.2 dX7_readFact_165
    · simp only [fa_lt, fa_le, fa_eq, li_0] at c_40
      refine lv_iconst (v := 1) hx hb dX7_readFact_43 (by decide) ?_
      refine lv_goto (tgt := 48) hx hb dX7_readFact_44 (by decide) ?_
      refine lv_istore (lv' := [(4, .int 1), (3, .int 0), (2, .int v4), (0, .ref a0), (1, .int a1)]) hx hb dX7_readFact_48 hl (by decide) rfl (fun ls hl => ?_)
      refine lv_iload_n hx hb dX7_readFact_50 rfl (lv_at hl 1 rfl) ?_
      refine lv_if_ne (tgt := 59) hx hb dX7_readFact_51 (by decide) (fun c_51 => absurd c_51 (by decide)) (fun _ => ?_)
      refine lv_iload hx hb dX7_readFact_54 (lv_at hl 0 rfl) ?_
      refine lv_if_eq (tgt := 77) hx hb dX7_readFact_56 (by decide) (fun c_56 => absurd c_56 (by decide)) (fun _ => ?_)
      refine lv_iload_n hx hb dX7_readFact_59 rfl (lv_at hl 4 rfl) ?_
      refine lv_bipush (v := 10) hx hb dX7_readFact_60 (by decide) ?_
      refine lv_icmp_lt (tgt := 77) hx hb dX7_readFact_62 (by decide) (fun c_62 => ?_) (fun c_62 => by exfalso; simp only [fa_lt, fa_le, fa_eq, li_10] at c_62; omega)
      simp only [fa_lt, fa_le, fa_eq, li_10] at c_62
      refine lv_iload_n hx hb dX7_readFact_77 rfl (lv_at hl 1 rfl) ?_
      refine lv_if_eq (tgt := 100) hx hb dX7_readFact_78 (by decide) (fun _ => ?_) (fun c_78 => absurd c_78 (by decide))
      refine lv_iload hx hb dX7_readFact_100 (lv_at hl 0 rfl) ?_
      refine lv_if_eq (tgt := 142) hx hb dX7_readFact_102 (by decide) (fun c_102 => absurd c_102 (by decide)) (fun _ => ?_)
      refine lv_aload_n hx hb dX7_readFact_105 rfl (lv_at hl 3 rfl) ?_
      refine lv_iload_n hx hb dX7_readFact_106 rfl (lv_at hl 4 rfl) ?_
      refine lv_iconst (v := 1) hx hb dX7_readFact_107 (by decide) ?_
      refine lv_iadd hx hb dX7_readFact_108 ?_
      refine lv_topi (fun v108 e_v108 => ?_)
      have e_v108 : v108.toInt = a1.toInt + 1 := ad_i e_v108 rfl li_1 (by omega) (by omega)
      refine t_callv (va_runV (As := [.int v108]) (rest := []) ⟨hx, hb, hml, hown, hts⟩ (t_X7_readTest_9 l dC dI tys κ B w_2 hw.2.2.2.2 aK aV a0 k_a0 v108 (by omega) (by omega) f0 k_f0 f_a0_X7_0 f1 k_f1 f_a0_X7_1 H.size) (cwV 1 hts (gUV tw_679 tw_681 ts_0_12 tw_5 tw_682) rfl rfl rfl (by decide +kernel) ⟨(Nat.le_of_ble_eq_true rfl), (Nat.le_of_ble_eq_true rfl)⟩) ⟨cPreS.blind, t_recv hw (ci := 7) k_a0 rfl rfl, cPreS.use hw.2.1 hw.1 hw.2.2.1 hE hStr hR hw.2.2.2.1 (hw.free hA)⟩ rfl rfl hl.1 rfl (lv_room (Nat.le_of_ble_eq_true rfl)) dX7_readFact_109 ⟨(Nat.le_of_ble_eq_true rfl), (Nat.le_of_ble_eq_true rfl)⟩) hw hA (fun _ h => h.1) (fun w_7 H locs hp hw => ?_)
      obtain ⟨_, hm⟩ := hp
      have hM := hM.trans hm (by decide) (by decide)
      have f_a0_X7_0 := hm.1 _ _ _ _ f_a0_X7_0 (by decide)
      have f_a0_X7_1 := hm.1 _ _ _ _ f_a0_X7_1 (by decide)
      refine lv_aload_n hx hb dX7_readFact_112 rfl (lv_at hl 3 rfl) ?_
      refine t_getk (ci := 7) (C := RX7) (T := TX7) (N := 3) hx hb hts iX7 hown hw rfl 0 (by decide) (hts _ tw_166) (fun _ h9 => h9) dX7_readFact_113 f_a0_X7_0 ?_
      refine lv_bipush (v := 93) hx hb dX7_readFact_116 (by decide) ?_
      refine t_calli (va_runV (As := [.int 93]) (rest := []) ⟨hx, hb, hml, hown, hts⟩ (t_X9_takeSign l dC dI tys κ B w_7 hw.2.2.2.2 f0 k_f0 93 (by decide) (by decide) H.size) (cwV 1 hts (gUV tw_673 tw_603 tw_604 tw_2 tw_605) rfl rfl rfl (by decide +kernel) ⟨(Nat.le_of_ble_eq_true rfl), (Nat.le_of_ble_eq_true rfl)⟩) ⟨cPre.blind, t_recv hw (ci := 9) k_f0 rfl rfl, cPre.use hw.2.1 hw.1 hw.2.2.1 hE⟩ rfl rfl hl.1 rfl (lv_room (Nat.le_of_ble_eq_true rfl)) dX7_readFact_118 ⟨(Nat.le_of_ble_eq_true rfl), (Nat.le_of_ble_eq_true rfl)⟩) hw hA (fun _ _ h => h.2.2.1) (fun v118 w_8 H locs hp hw => ?_)
      obtain ⟨l_v118, h_v118, _, hm⟩ := hp
      have hM := hM.trans hm (by decide) (by decide)
      have f_a0_X7_0 := hm.1 _ _ _ _ f_a0_X7_0 (by decide)
      have f_a0_X7_1 := hm.1 _ _ _ _ f_a0_X7_1 (by decide)
      refine lv_if_ne (tgt := 165) hx hb dX7_readFact_121 (by decide) (fun c_121 => ?_) (fun c_121 => ?_)
      · simp only [fa_lt, fa_le, fa_eq, li_0] at c_121
        rw [hQ]
        refine W.widen (k := 0) (n := 0) (Nat.le_refl _) (Nat.le_refl _) ?_
        exact W.vret hx hb hr (fun t ht hW => ⟨⟨w_8, rfl, ⟨hw.2.2.2.2, hM⟩, by rw [ht]; exact hw.2.1, va_K.moved hW.alike hw.1, hw.2.2.1⟩, hw.2.2.2.1.F ht⟩) hw.2.2.2.1.2.2 dX7_readFact_165
      · simp only [fa_lt, fa_le, fa_eq, li_0] at c_121
        refine lv_aload_n hx hb dX7_readFact_124 rfl (lv_at hl 3 rfl) ?_
        refine t_getk (ci := 7) (C := RX7) (T := TX7) (N := 3) hx hb hts iX7 hown hw rfl 0 (by decide) (hts _ tw_166) (fun _ h9 => h9) dX7_readFact_125 f_a0_X7_0 ?_
        refine lv_aload_n hx hb dX7_readFact_128 rfl (lv_at hl 3 rfl) ?_
        refine t_getk (ci := 7) (C := RX7) (T := TX7) (N := 3) hx hb hts iX7 hown hw rfl 0 (by decide) (hts _ tw_166) (fun _ h9 => h9) dX7_readFact_129 f_a0_X7_0 ?_
        refine t_geti (ci := 9) (C := RX9) (T := TX9) (N := 4) hx hb hts iX9 hown hw k_f0 rfl rfl rfl 2 (by decide) (hts _ tw_39) (fun _ h9 => h9) dX7_readFact_132 rfl (fun v132 l_v132 h_v132 f_f0_X9_2 => ?_)
        have l_v132 : 0 ≤ v132.toInt := l_v132
        have h_v132 : v132.toInt ≤ 400 := h_v132
        refine lv_iconst (v := 0) hx hb dX7_readFact_135 (by decide) ?_
        refine t_callv (va_runV (As := [.int v132, .int 0]) (rest := []) ⟨hx, hb, hml, hown, hts⟩ (t_X9_fail l dC dI tys κ B w_8 hw.2.2.2.2 f0 k_f0 v132 (by omega) (by omega) 0 (by decide) (by decide) H.size) (cwV 2 hts (gUV tw_644 tw_562 tw_563 tw_2 tw_564) rfl rfl rfl (by decide +kernel) ⟨(Nat.le_of_ble_eq_true rfl), (Nat.le_of_ble_eq_true rfl)⟩) ⟨cPre.blind, t_recv hw (ci := 9) k_f0 rfl rfl, cPre.use hw.2.1 hw.1 hw.2.2.1 hE⟩ rfl rfl hl.1 rfl (lv_room (Nat.le_of_ble_eq_true rfl)) dX7_readFact_136 ⟨(Nat.le_of_ble_eq_true rfl), (Nat.le_of_ble_eq_true rfl)⟩) hw hA (fun _ h => h.1) (fun w_9 H locs hp hw => ?_)
        obtain ⟨_, hm, ⟨v136f, l_v136f, h_v136f, f_f0_X9_3⟩⟩ := hp
        have zc_0 := li_0
        have hM := hM.trans hm (by decide) (by decide)
        have f_a0_X7_0 := hm.1 _ _ _ _ f_a0_X7_0 (by decide)
        have f_a0_X7_1 := hm.1 _ _ _ _ f_a0_X7_1 (by decide)
        have f_f0_X9_2 := hm.1 _ _ _ _ f_f0_X9_2 (by decide)
        refine lv_goto (tgt := 165) hx hb dX7_readFact_139 (by decide) ?_
        rw [hQ]
        refine W.widen (k := 0) (n := 0) (Nat.le_refl _) (Nat.le_refl _) ?_
        exact W.vret hx hb hr (fun t ht hW => ⟨⟨w_9, rfl, ⟨hw.2.2.2.2, hM⟩, by rw [ht]; exact hw.2.1, va_K.moved hW.alike hw.1, hw.2.2.1⟩, hw.2.2.2.1.F ht⟩) hw.2.2.2.1.2.2 dX7_readFact_165
  · simp only [fa_lt, fa_le, fa_eq, li_m1] at c_18
    refine lv_iconst (v := 1) hx hb dX7_readFact_21 (by decide) ?_
    refine lv_goto (tgt := 26) hx hb dX7_readFact_22 (by decide) ?_
    refine lv_istore_n (lv' := [(3, .int 1), (2, .int v4), (0, .ref a0), (1, .int a1)]) hx hb dX7_readFact_26 rfl hl (by decide) rfl (fun ls hl => ?_)
    refine lv_iload_n hx hb dX7_readFact_27 rfl (lv_at hl 0 rfl) ?_
    refine lv_if_ne (tgt := 47) hx hb dX7_readFact_28 (by decide) (fun _ => ?_) (fun c_28 => absurd c_28 (by decide))
    refine lv_iconst (v := 0) hx hb dX7_readFact_47 (by decide) ?_
    refine lv_istore (lv' := [(4, .int 0), (3, .int 1), (2, .int v4), (0, .ref a0), (1, .int a1)]) hx hb dX7_readFact_48 hl (by decide) rfl (fun ls hl => ?_)
    refine lv_iload_n hx hb dX7_readFact_50 rfl (lv_at hl 1 rfl) ?_
    refine lv_if_ne (tgt := 59) hx hb dX7_readFact_51 (by decide) (fun _ => ?_) (fun c_51 => absurd c_51 (by decide))
    refine lv_iload_n hx hb dX7_readFact_59 rfl (lv_at hl 4 rfl) ?_
    refine lv_bipush (v := 10) hx hb dX7_readFact_60 (by decide) ?_
    refine lv_icmp_lt (tgt := 77) hx hb dX7_readFact_62 (by decide) (fun c_62 => ?_) (fun c_62 => by exfalso; simp only [fa_lt, fa_le, fa_eq, li_10] at c_62; omega)
    simp only [fa_lt, fa_le, fa_eq, li_10] at c_62
    refine lv_iload_n hx hb dX7_readFact_77 rfl (lv_at hl 1 rfl) ?_
    refine lv_if_eq (tgt := 100) hx hb dX7_readFact_78 (by decide) (fun c_78 => absurd c_78 (by decide)) (fun _ => ?_)
    refine lv_aload_n hx hb dX7_readFact_81 rfl (lv_at hl 3 rfl) ?_
    refine lv_iload_n hx hb dX7_readFact_82 rfl (lv_at hl 4 rfl) ?_
    refine lv_iconst (v := 1) hx hb dX7_readFact_83 (by decide) ?_
    refine lv_iadd hx hb dX7_readFact_84 ?_
    refine lv_topi (fun v84 e_v84 => ?_)
    have e_v84 : v84.toInt = a1.toInt + 1 := ad_i e_v84 rfl li_1 (by omega) (by omega)
    refine t_callv (va_runV (As := [.int v84]) (rest := []) ⟨hx, hb, hml, hown, hts⟩ (t_X7_readFact_9 l dC dI tys κ B w_1 hw.2.2.2.2 aK aV a0 k_a0 v84 (by omega) (by omega) f0 k_f0 f_a0_X7_0 f1 k_f1 f_a0_X7_1 H.size) (cwV 1 hts (gUV tw_683 tw_685 ts_0_13 tw_5 tw_686) rfl rfl rfl (by decide +kernel) ⟨(Nat.le_of_ble_eq_true rfl), (Nat.le_of_ble_eq_true rfl)⟩) ⟨cPreS.blind, t_recv hw (ci := 7) k_a0 rfl rfl, cPreS.use hw.2.1 hw.1 hw.2.2.1 hE hStr hR hw.2.2.2.1 (hw.free hA)⟩ rfl rfl hl.1 rfl (lv_room (Nat.le_of_ble_eq_true rfl)) dX7_readFact_85 ⟨(Nat.le_of_ble_eq_true rfl), (Nat.le_of_ble_eq_true rfl)⟩) hw hA (fun _ h => h.1) (fun w_10 H locs hp hw => ?_)
    obtain ⟨_, hm⟩ := hp
    have hM := hM.trans hm (by decide) (by decide)
    have f_a0_X7_0 := hm.1 _ _ _ _ f_a0_X7_0 (by decide)
    have f_a0_X7_1 := hm.1 _ _ _ _ f_a0_X7_1 (by decide)
    refine lv_aload_n hx hb dX7_readFact_88 rfl (lv_at hl 3 rfl) ?_
    refine t_getk (ci := 7) (C := RX7) (T := TX7) (N := 3) hx hb hts iX7 hown hw rfl 1 (by decide) (hts _ tw_167) (fun _ h9 => h9) dX7_readFact_89 f_a0_X7_1 ?_
    refine lv_bipush (v := (-24)) hx hb dX7_readFact_92 (by decide) ?_
    refine t_callv (va_runV (As := [.int (-24)]) (rest := []) ⟨hx, hb, hml, hown, hts⟩ (t_X6_add l dC dI tys κ B w_10 hw.2.2.2.2 f1 k_f1 (-24) H.size) (cwV 1 hts (gUV tw_660 tw_661 tw_662 tw_6 tw_663) rfl rfl rfl (by decide +kernel) ⟨(Nat.le_of_ble_eq_true rfl), (Nat.le_of_ble_eq_true rfl)⟩) ⟨cPre.blind, t_recv hw (ci := 6) k_f1 rfl rfl, cPre.use hw.2.1 hw.1 hw.2.2.1 hE⟩ rfl rfl hl.1 rfl (lv_room (Nat.le_of_ble_eq_true rfl)) dX7_readFact_94 ⟨(Nat.le_of_ble_eq_true rfl), (Nat.le_of_ble_eq_true rfl)⟩) hw hA (fun _ h => h.1) (fun w_11 H locs hp hw => ?_)
    obtain ⟨_, hm⟩ := hp
    have hM := hM.trans hm (by decide) (by decide)
    have f_a0_X7_0 := hm.1 _ _ _ _ f_a0_X7_0 (by decide)
    have f_a0_X7_1 := hm.1 _ _ _ _ f_a0_X7_1 (by decide)
    refine lv_goto (tgt := 165) hx hb dX7_readFact_97 (by decide) ?_
    rw [hQ]
    refine W.widen (k := 0) (n := 0) (Nat.le_refl _) (Nat.le_refl _) ?_
    exact W.vret hx hb hr (fun t ht hW => ⟨⟨w_11, rfl, ⟨hw.2.2.2.2, hM⟩, by rw [ht]; exact hw.2.1, va_K.moved hW.alike hw.1, hw.2.2.1⟩, hw.2.2.2.1.F ht⟩) hw.2.2.2.1.2.2 dX7_readFact_165
set_option maxHeartbeats 4000000 in
set_option maxRecDepth 100000 in
theorem t_X7_readTest_8 (l : Launch) (dC : Nat → ClassId) (dI : Nat → Nat → Nat) (tys : List (ClassId × FieldType)) (κ : tK) (B : Nat) (ws : va_W) (hT : Ty κ tys B ws) (aK aV : Nat → Nat) (a0 : Nat) (k_a0 : κ a0 = some 7) (a1 : Int32) (l_a1 : 8 ≤ a1.toInt) (h_a1 : a1.toInt ≤ 8) (f0 : Nat) (k_f0 : κ f0 = some 9) (f_a0_X7_0 : fld ws a0 7 0 (.ref f0)) (f1 : Nat) (k_f1 : κ f1 = some 6) (f_a0_X7_1 : fld ws a0 7 1 (.ref f1)) (sz : Nat) : Met l yX7_readTest (ws_u yX7_readTest cX7_readTest 5 none) ({ frames := 13, cells := 0, slots := 0, locals := 304 }) (va_Pc [.ref a0, .int a1] (cPreS (dC, dI) aK aV tys ws sz)) (va_Qv (fun (w : va_W) => Ty κ tys B w ∧ Sm [(6, 1), (7, 2), (9, 2), (9, 3)] [38] κ ws w) (fun w t => cPost (dC, dI) tys w (va_A ws sz) t) (va_A ws sz)) 0 0 (va_A ws sz) := by
  refine Met.ofW (cc := cX7_readTest) (maxL := 5) (ret := none) (by decide) rfl ?_
  intro p e s m args below meth c s₁ B0 hml hv
  obtain ⟨rfl, ⟨hsz, hP, hK, hD0, hE⟩, hStr, hR⟩ := hv
  have hx := B0.exec
  have hb := B0.bytes
  have hr := B0.returns
  have hts0 := atoms_spec (ws := ws_u yX7_readTest cX7_readTest 5 none) B0.pre
  have hts : ∀ w ∈ gT, w.before _ s = true := fun w h => hts0 w (List.mem_cons_of_mem _ h)
  have hown : s.vm.findClass RX7 = some m.cls := findClass_of_methodNamed B0.named
  have hlocks := B0.notSynchronized
  subst hsz
  have hD := hD0.self (sz := s.heap.size)
  generalize hAe : va_A ws s.heap.size = A at hD hStr ⊢
  have hA : ∀ q : Nat, s.heap.size ≤ q → A q := fun q h => by rw [← hAe]; exact Or.inr h
  have hw : tW (dC, dI) tys κ B A s ws s.heap [] := ⟨hK, hP, hD, va_S.rf, hT⟩
  have hM : Sm [(6, 1), (7, 2), (9, 2), (9, 3)] [38] κ ws ws := Sm.rf
  clear hP hK hD hD0 hts0
  have hl := lv_entry ([.ref a0, .int a1]) (n := 5) (Nat.le_of_ble_eq_true rfl)
  rw [lg_entry_eq]
  generalize (lg_sl ([.ref a0, .int a1]) ++ List.replicate (5 - (lg_sl ([.ref a0, .int a1])).length) Slot.unset).toArray = ls at hl ⊢
  have hl : lv_has ls 5 [(0, .ref a0), (1, .int a1)] := hl
  refine t_start (fun QQ hQ => ?_)
  refine lv_iconst (v := 0) hx hb dX7_readTest_0 (by decide) ?_
  refine lv_istore_n (lv' := [(2, .int 0), (0, .ref a0), (1, .int a1)]) hx hb dX7_readTest_1 rfl hl (by decide) rfl (fun ls hl => ?_)
  refine lv_aload_n hx hb dX7_readTest_2 rfl (lv_at hl 1 rfl) ?_
  refine lv_iload_n hx hb dX7_readTest_3 rfl (lv_at hl 2 rfl) ?_
  refine t_callv (va_runV (As := [.int a1]) (rest := []) ⟨hx, hb, hml, hown, hts⟩ (t_X7_readFact_8 l dC dI tys κ B ws hw.2.2.2.2 aK aV a0 k_a0 a1 (by omega) (by omega) f0 k_f0 f_a0_X7_0 f1 k_f1 f_a0_X7_1 s.heap.size) (cwV 1 hts (gUV tw_683 tw_685 ts_0_13 tw_5 tw_686) rfl rfl rfl (by decide +kernel) ⟨(Nat.le_of_ble_eq_true rfl), (Nat.le_of_ble_eq_true rfl)⟩) ⟨cPreS.blind, t_recv hw (ci := 7) k_a0 rfl rfl, cPreS.use hw.2.1 hw.1 hw.2.2.1 hE hStr hR hw.2.2.2.1 (hw.free hA)⟩ rfl rfl hl.1 rfl (lv_room (Nat.le_of_ble_eq_true rfl)) dX7_readTest_4 ⟨(Nat.le_of_ble_eq_true rfl), (Nat.le_of_ble_eq_true rfl)⟩) hw hA (fun _ h => h.1) (fun w_1 H locs hp hw => ?_)
  obtain ⟨_, hm⟩ := hp
  have hM := hM.trans hm (by decide) (by decide)
  have f_a0_X7_0 := hm.1 _ _ _ _ f_a0_X7_0 (by decide)
  have f_a0_X7_1 := hm.1 _ _ _ _ f_a0_X7_1 (by decide)
  refine lv_iconst (v := 0) hx hb dX7_readTest_7 (by decide) ?_
  refine lv_istore_n (lv' := [(3, .int 0), (2, .int 0), (0, .ref a0), (1, .int a1)]) hx hb dX7_readTest_8 rfl hl (by decide) rfl (fun ls hl => ?_)
  have J9 : ∀ (n : Nat) (H : Heap) (locs : List Loc) (ls : Array Slot), (∃ (w9 : va_W) (p9_l2 : Int32) (p9_l3 : Int32), tW (dC, dI) tys κ B A s w9 H locs ∧ Sm [(6, 1), (7, 2), (9, 2), (9, 3)] [38] κ ws w9 ∧ 0 ≤ p9_l2.toInt ∧ p9_l2.toInt ≤ 1 ∧ 0 ≤ p9_l3.toInt ∧ p9_l3.toInt ≤ 401 ∧ fld w9 a0 7 0 (.ref f0) ∧ fld w9 a0 7 1 (.ref f1) ∧ lv_has ls 5 [(0, .ref a0), (1, .int a1), (2, .int p9_l2), (3, .int p9_l3)] ∧ (401 - p9_l3.toInt).toNat = n) → W p l e (headSpec (ws_u yX7_readTest cX7_readTest 5 none) ({ frames := 13, cells := 0, slots := 0, locals := 304 })).room s m ([.ref a0, .int a1] : List Value).toArray below meth c H locs 0 0 QQ (F0 m 9 ls []) := by
    refine loopT _ ?_
    intro n_9 H locs ls hI ih_9
    obtain ⟨w9, p9_l2, p9_l3, hw, hM, l_p9_l2, h_p9_l2, l_p9_l3, h_p9_l3, f_a0_X7_0, f_a0_X7_1, hl, hn_9⟩ := hI
    refine lv_iload_n hx hb dX7_readTest_9 rfl (lv_at hl 3 rfl) ?_
    refine lv_sipush (v := 400) hx hb dX7_readTest_10 (by decide) ?_
    have J96 : ∀ (H : Heap) (locs : List Loc) (ls : Array Slot) (w96 : va_W), tW (dC, dI) tys κ B A s w96 H locs → Sm [(6, 1), (7, 2), (9, 2), (9, 3)] [38] κ ws w96 → fld w96 a0 7 0 (.ref f0) → fld w96 a0 7 1 (.ref f1) → lv_has ls 5 [(0, .ref a0), (1, .int a1), (2, .int p9_l2), (3, .int p9_l3)] → W p l e (headSpec (ws_u yX7_readTest cX7_readTest 5 none) ({ frames := 13, cells := 0, slots := 0, locals := 304 })).room s m ([.ref a0, .int a1] : List Value).toArray below meth c H locs 0 0 QQ (F0 m 96 ls []) := by
      intro H locs ls w96 hw hM f_a0_X7_0 f_a0_X7_1 hl
      refine lv_iload_n hx hb dX7_readTest_96 rfl (lv_at hl 2 rfl) ?_
      refine lv_if_eq (tgt := 109) hx hb dX7_readTest_97 (by decide) (fun c_97 => ?_) (fun c_97 => ?_)
      · simp only [fa_lt, fa_le, fa_eq, li_0] at c_97
        rw [hQ]
        refine W.widen (k := 0) (n := 0) (Nat.le_refl _) (Nat.le_refl _) ?_
        exact W.vret hx hb hr (fun t ht hW => ⟨⟨w96, rfl, ⟨hw.2.2.2.2, hM⟩, by rw [ht]; exact hw.2.1, va_K.moved hW.alike hw.1, hw.2.2.1⟩, hw.2.2.2.1.F ht⟩) hw.2.2.2.1.2.2 dX7_readTest_109
      · simp only [fa_lt, fa_le, fa_eq, li_0] at c_97
        refine lv_aload_n hx hb dX7_readTest_100 rfl (lv_at hl 0 rfl) ?_
        refine t_getk (ci := 7) (C := RX7) (T := TX7) (N := 3) hx hb hts iX7 hown hw rfl 1 (by decide) (hts _ tw_167) (fun _ h9 => h9) dX7_readTest_101 f_a0_X7_1 ?_
        refine lv_bipush (v := (-23)) hx hb dX7_readTest_104 (by decide) ?_
        refine t_callv (va_runV (As := [.int (-23)]) (rest := []) ⟨hx, hb, hml, hown, hts⟩ (t_X6_add l dC dI tys κ B w96 hw.2.2.2.2 f1 k_f1 (-23) H.size) (cwV 1 hts (gUV tw_660 tw_661 tw_662 tw_6 tw_663) rfl rfl rfl (by decide +kernel) ⟨(Nat.le_of_ble_eq_true rfl), (Nat.le_of_ble_eq_true rfl)⟩) ⟨cPre.blind, t_recv hw (ci := 6) k_f1 rfl rfl, cPre.use hw.2.1 hw.1 hw.2.2.1 hE⟩ rfl rfl hl.1 rfl (lv_room (Nat.le_of_ble_eq_true rfl)) dX7_readTest_106 ⟨(Nat.le_of_ble_eq_true rfl), (Nat.le_of_ble_eq_true rfl)⟩) hw hA (fun _ h => h.1) (fun w_2 H locs hp hw => ?_)
        obtain ⟨_, hm⟩ := hp
        have hM := hM.trans hm (by decide) (by decide)
        have f_a0_X7_0 := hm.1 _ _ _ _ f_a0_X7_0 (by decide)
        have f_a0_X7_1 := hm.1 _ _ _ _ f_a0_X7_1 (by decide)
        rw [hQ]
        refine W.widen (k := 0) (n := 0) (Nat.le_refl _) (Nat.le_refl _) ?_
        exact W.vret hx hb hr (fun t ht hW => ⟨⟨w_2, rfl, ⟨hw.2.2.2.2, hM⟩, by rw [ht]; exact hw.2.1, va_K.moved hW.alike hw.1, hw.2.2.1⟩, hw.2.2.2.1.F ht⟩) hw.2.2.2.1.2.2 dX7_readTest_109
    refine lv_icmp_ge (tgt := 96) hx hb dX7_readTest_13 (by decide) (fun c_13 => ?_) (fun c_13 => ?_)
    · simp only [fa_lt, fa_le, fa_eq, li_400] at c_13
      exact J96 _ _ _ w9 hw hM f_a0_X7_0 f_a0_X7_1 (lv_sub hl [0, 1, 2, 3] rfl)
    · simp only [fa_lt, fa_le, fa_eq, li_400] at c_13
      refine lv_aload_n hx hb dX7_readTest_16 rfl (lv_at hl 0 rfl) ?_
      refine t_getk (ci := 7) (C := RX7) (T := TX7) (N := 3) hx hb hts iX7 hown hw rfl 0 (by decide) (hts _ tw_166) (fun _ h9 => h9) dX7_readTest_17 f_a0_X7_0 ?_
      refine va_ldcS hx hb hown hR.2.1 dX7_readTest_20 ?_
      refine t_calli (va_runV (As := [.ref (aK 1)]) (rest := []) ⟨hx, hb, hml, hown, hts⟩ (t_X9_takeWord l dC dI tys κ B w9 hw.2.2.2.2 aK aV f0 k_f0 1 (by decide) H.size) (cwV 1 hts (gUV tw_643 tw_506 tw_507 tw_2 tw_508) rfl rfl rfl (by decide +kernel) ⟨(Nat.le_of_ble_eq_true rfl), (Nat.le_of_ble_eq_true rfl)⟩) ⟨cPreS.blind, t_recv hw (ci := 9) k_f0 rfl rfl, cPreS.use hw.2.1 hw.1 hw.2.2.1 hE hStr hR hw.2.2.2.1 (hw.free hA)⟩ rfl rfl hl.1 rfl (lv_room (Nat.le_of_ble_eq_true rfl)) dX7_readTest_22 ⟨(Nat.le_of_ble_eq_true rfl), (Nat.le_of_ble_eq_true rfl)⟩) hw hA (fun _ _ h => h.1) (fun v22 w_3 H locs hp hw => ?_)
      obtain ⟨_, hm⟩ := hp
      have l_v22 := i32_lo v22
      have h_v22 := i32_hi v22
      have hM := hM.trans hm (by decide) (by decide)
      have f_a0_X7_0 := hm.1 _ _ _ _ f_a0_X7_0 (by decide)
      have f_a0_X7_1 := hm.1 _ _ _ _ f_a0_X7_1 (by decide)
      refine lv_istore (lv' := [(4, .int v22), (0, .ref a0), (1, .int a1), (2, .int p9_l2), (3, .int p9_l3)]) hx hb dX7_readTest_25 hl (by decide) rfl (fun ls hl => ?_)
      refine lv_iload hx hb dX7_readTest_27 (lv_at hl 0 rfl) ?_
      refine lv_iconst (v := (-1)) hx hb dX7_readTest_29 (by decide) ?_
      refine lv_icmp_ne (tgt := 36) hx hb dX7_readTest_30 (by decide) (fun c_30 => ?_) (fun c_30 => ?_)
      · simp only [fa_lt, fa_le, fa_eq, li_m1] at c_30
        refine lv_iload hx hb dX7_readTest_36 (lv_at hl 0 rfl) ?_
        refine lv_iconst (v := 1) hx hb dX7_readTest_38 (by decide) ?_
        have J55 : ∀ (H : Heap) (locs : List Loc) (ls : Array Slot) (w55 : va_W), tW (dC, dI) tys κ B A s w55 H locs → Sm [(6, 1), (7, 2), (9, 2), (9, 3)] [38] κ ws w55 → fld w55 a0 7 0 (.ref f0) → fld w55 a0 7 1 (.ref f1) → lv_has ls 5 [(0, .ref a0), (1, .int a1), (2, .int p9_l2), (3, .int p9_l3), (4, .int v22)] → W p l e (headSpec (ws_u yX7_readTest cX7_readTest 5 none) ({ frames := 13, cells := 0, slots := 0, locals := 304 })).room s m ([.ref a0, .int a1] : List Value).toArray below meth c H locs 0 0 QQ (F0 m 55 ls []) := by
          intro H locs ls w55 hw hM f_a0_X7_0 f_a0_X7_1 hl
          refine lv_iload_n hx hb dX7_readTest_55 rfl (lv_at hl 2 rfl) ?_
          have J70 : ∀ (H : Heap) (locs : List Loc) (ls : Array Slot) (w70 : va_W) (p70_s0 : Int32), tW (dC, dI) tys κ B A s w70 H locs → Sm [(6, 1), (7, 2), (9, 2), (9, 3)] [38] κ ws w70 → 0 ≤ p70_s0.toInt → p70_s0.toInt ≤ 1 → fld w70 a0 7 0 (.ref f0) → fld w70 a0 7 1 (.ref f1) → lv_has ls 5 [(0, .ref a0), (1, .int a1), (2, .int p9_l2), (3, .int p9_l3), (4, .int v22)] → W p l e (headSpec (ws_u yX7_readTest cX7_readTest 5 none) ({ frames := 13, cells := 0, slots := 0, locals := 304 })).room s m ([.ref a0, .int a1] : List Value).toArray below meth c H locs 0 0 QQ (F0 m 70 ls [.int p70_s0]) := by
            intro H locs ls w70 p70_s0 hw hM l_p70_s0 h_p70_s0 f_a0_X7_0 f_a0_X7_1 hl
            refine lv_istore_n (lv' := [(2, .int p70_s0), (0, .ref a0), (1, .int a1), (3, .int p9_l3), (4, .int v22)]) hx hb dX7_readTest_70 rfl hl (by decide) rfl (fun ls hl => ?_)
            refine lv_aload_n hx hb dX7_readTest_71 rfl (lv_at hl 1 rfl) ?_
            refine lv_iload_n hx hb dX7_readTest_72 rfl (lv_at hl 2 rfl) ?_
            refine t_callv (va_runV (As := [.int a1]) (rest := []) ⟨hx, hb, hml, hown, hts⟩ (t_X7_readFact_8 l dC dI tys κ B w70 hw.2.2.2.2 aK aV a0 k_a0 a1 (by omega) (by omega) f0 k_f0 f_a0_X7_0 f1 k_f1 f_a0_X7_1 H.size) (cwV 1 hts (gUV tw_683 tw_685 ts_0_13 tw_5 tw_686) rfl rfl rfl (by decide +kernel) ⟨(Nat.le_of_ble_eq_true rfl), (Nat.le_of_ble_eq_true rfl)⟩) ⟨cPreS.blind, t_recv hw (ci := 7) k_a0 rfl rfl, cPreS.use hw.2.1 hw.1 hw.2.2.1 hE hStr hR hw.2.2.2.1 (hw.free hA)⟩ rfl rfl hl.1 rfl (lv_room (Nat.le_of_ble_eq_true rfl)) dX7_readTest_73 ⟨(Nat.le_of_ble_eq_true rfl), (Nat.le_of_ble_eq_true rfl)⟩) hw hA (fun _ h => h.1) (fun w_4 H locs hp hw => ?_)
            obtain ⟨_, hm⟩ := hp
            have hM := hM.trans hm (by decide) (by decide)
            have f_a0_X7_0 := hm.1 _ _ _ _ f_a0_X7_0 (by decide)
            have f_a0_X7_1 := hm.1 _ _ _ _ f_a0_X7_1 (by decide)
            refine lv_iload hx hb dX7_readTest_76 (lv_at hl 4 rfl) ?_
            have J90 : ∀ (H : Heap) (locs : List Loc) (ls : Array Slot) (w90 : va_W), tW (dC, dI) tys κ B A s w90 H locs → Sm [(6, 1), (7, 2), (9, 2), (9, 3)] [38] κ ws w90 → fld w90 a0 7 0 (.ref f0) → fld w90 a0 7 1 (.ref f1) → lv_has ls 5 [(0, .ref a0), (1, .int a1), (2, .int p70_s0), (3, .int p9_l3), (4, .int v22)] → W p l e (headSpec (ws_u yX7_readTest cX7_readTest 5 none) ({ frames := 13, cells := 0, slots := 0, locals := 304 })).room s m ([.ref a0, .int a1] : List Value).toArray below meth c H locs 0 0 QQ (F0 m 90 ls []) := by
              intro H locs ls w90 hw hM f_a0_X7_0 f_a0_X7_1 hl
              obtain ⟨v90, e_v90⟩ : ∃ y : Int32, y = p9_l3 + 1 := ⟨_, rfl⟩
              refine lv_iinc (v := v90) (lv' := [(3, .int v90), (0, .ref a0), (1, .int a1), (2, .int p70_s0), (4, .int v22)]) hx hb dX7_readTest_90 hl (k := 3) rfl e_v90.symm (by decide) rfl (fun ls hl => ?_)
              have e_v90 : v90.toInt = p9_l3.toInt + 1 := ad_i e_v90 rfl li_1 (by omega) (by omega)
              refine lv_goto (tgt := 9) hx hb dX7_readTest_93 (by decide) ?_
              exact ih_9 _ _ _ _ (by omega) ⟨w90, p70_s0, v90, hw, hM, (by omega), (by omega), (by omega), (by omega), f_a0_X7_0, f_a0_X7_1, (lv_sub hl [1, 2, 3, 0] rfl), rfl⟩
            refine lv_if_ne (tgt := 90) hx hb dX7_readTest_78 (by decide) (fun c_78 => ?_) (fun c_78 => ?_)
            · simp only [fa_lt, fa_le, fa_eq, li_0] at c_78
              exact J90 _ _ _ w_4 hw hM f_a0_X7_0 f_a0_X7_1 (lv_sub hl [1, 2, 0, 3, 4] rfl)
            · simp only [fa_lt, fa_le, fa_eq, li_0] at c_78
              refine lv_aload_n hx hb dX7_readTest_81 rfl (lv_at hl 1 rfl) ?_
              refine t_getk (ci := 7) (C := RX7) (T := TX7) (N := 3) hx hb hts iX7 hown hw rfl 1 (by decide) (hts _ tw_167) (fun _ h9 => h9) dX7_readTest_82 f_a0_X7_1 ?_
              refine lv_bipush (v := (-22)) hx hb dX7_readTest_85 (by decide) ?_
              refine t_callv (va_runV (As := [.int (-22)]) (rest := []) ⟨hx, hb, hml, hown, hts⟩ (t_X6_add l dC dI tys κ B w_4 hw.2.2.2.2 f1 k_f1 (-22) H.size) (cwV 1 hts (gUV tw_660 tw_661 tw_662 tw_6 tw_663) rfl rfl rfl (by decide +kernel) ⟨(Nat.le_of_ble_eq_true rfl), (Nat.le_of_ble_eq_true rfl)⟩) ⟨cPre.blind, t_recv hw (ci := 6) k_f1 rfl rfl, cPre.use hw.2.1 hw.1 hw.2.2.1 hE⟩ rfl rfl hl.1 rfl (lv_room (Nat.le_of_ble_eq_true rfl)) dX7_readTest_87 ⟨(Nat.le_of_ble_eq_true rfl), (Nat.le_of_ble_eq_true rfl)⟩) hw hA (fun _ h => h.1) (fun w_5 H locs hp hw => ?_)
              obtain ⟨_, hm⟩ := hp
              have hM := hM.trans hm (by decide) (by decide)
              have f_a0_X7_0 := hm.1 _ _ _ _ f_a0_X7_0 (by decide)
              have f_a0_X7_1 := hm.1 _ _ _ _ f_a0_X7_1 (by decide)
              exact J90 _ _ _ w_5 hw hM f_a0_X7_0 f_a0_X7_1 (lv_sub hl [1, 2, 0, 3, 4] rfl)
          have J65 : ∀ (H : Heap) (locs : List Loc) (ls : Array Slot) (w65 : va_W), tW (dC, dI) tys κ B A s w65 H locs → Sm [(6, 1), (7, 2), (9, 2), (9, 3)] [38] κ ws w65 → fld w65 a0 7 0 (.ref f0) → fld w65 a0 7 1 (.ref f1) → lv_has ls 5 [(0, .ref a0), (1, .int a1), (2, .int p9_l2), (3, .int p9_l3), (4, .int v22)] → W p l e (headSpec (ws_u yX7_readTest cX7_readTest 5 none) ({ frames := 13, cells := 0, slots := 0, locals := 304 })).room s m ([.ref a0, .int a1] : List Value).toArray below meth c H locs 0 0 QQ (F0 m 65 ls []) := by
            intro H locs ls w65 hw hM f_a0_X7_0 f_a0_X7_1 hl
            refine lv_iconst (v := 1) hx hb dX7_readTest_65 (by decide) ?_
            refine lv_goto (tgt := 70) hx hb dX7_readTest_66 (by decide) ?_
            exact J70 _ _ _ w65 1 hw hM (by decide) (by decide) f_a0_X7_0 f_a0_X7_1 (lv_sub hl [0, 1, 2, 3, 4] rfl)
          refine lv_if_ne (tgt := 65) hx hb dX7_readTest_56 (by decide) (fun c_56 => ?_) (fun c_56 => ?_)
          · simp only [fa_lt, fa_le, fa_eq, li_0] at c_56
            exact J65 _ _ _ w55 hw hM f_a0_X7_0 f_a0_X7_1 (lv_sub hl [0, 1, 2, 3, 4] rfl)
          · simp only [fa_lt, fa_le, fa_eq, li_0] at c_56
            refine lv_iload hx hb dX7_readTest_59 (lv_at hl 4 rfl) ?_
            refine lv_iconst (v := 1) hx hb dX7_readTest_61 (by decide) ?_
            refine lv_icmp_ne (tgt := 69) hx hb dX7_readTest_62 (by decide) (fun c_62 => ?_) (fun c_62 => ?_)
            · simp only [fa_lt, fa_le, fa_eq, li_1] at c_62
              refine lv_iconst (v := 0) hx hb dX7_readTest_69 (by decide) ?_
              exact J70 _ _ _ w55 0 hw hM (by decide) (by decide) f_a0_X7_0 f_a0_X7_1 (lv_sub hl [0, 1, 2, 3, 4] rfl)
            · simp only [fa_lt, fa_le, fa_eq, li_1] at c_62
              exact J65 _ _ _ w55 hw hM f_a0_X7_0 f_a0_X7_1 (lv_sub hl [0, 1, 2, 3, 4] rfl)
        refine lv_icmp_ne (tgt := 55) hx hb dX7_readTest_39 (by decide) (fun c_39 => ?_) (fun c_39 => ?_)
        · simp only [fa_lt, fa_le, fa_eq, li_1] at c_39
          exact J55 _ _ _ w_3 hw hM f_a0_X7_0 f_a0_X7_1 (lv_sub hl [1, 2, 3, 4, 0] rfl)
        · simp only [fa_lt, fa_le, fa_eq, li_1] at c_39
          refine lv_iload_n hx hb dX7_readTest_42 rfl (lv_at hl 3 rfl) ?_
          refine lv_if_eq (tgt := 55) hx hb dX7_readTest_43 (by decide) (fun c_43 => ?_) (fun c_43 => ?_)
          · simp only [fa_lt, fa_le, fa_eq, li_0] at c_43
            exact J55 _ _ _ w_3 hw hM f_a0_X7_0 f_a0_X7_1 (lv_sub hl [1, 2, 3, 4, 0] rfl)
          · simp only [fa_lt, fa_le, fa_eq, li_0] at c_43
            refine lv_aload_n hx hb dX7_readTest_46 rfl (lv_at hl 1 rfl) ?_
            refine t_getk (ci := 7) (C := RX7) (T := TX7) (N := 3) hx hb hts iX7 hown hw rfl 1 (by decide) (hts _ tw_167) (fun _ h9 => h9) dX7_readTest_47 f_a0_X7_1 ?_
            refine lv_bipush (v := (-23)) hx hb dX7_readTest_50 (by decide) ?_
            refine t_callv (va_runV (As := [.int (-23)]) (rest := []) ⟨hx, hb, hml, hown, hts⟩ (t_X6_add l dC dI tys κ B w_3 hw.2.2.2.2 f1 k_f1 (-23) H.size) (cwV 1 hts (gUV tw_660 tw_661 tw_662 tw_6 tw_663) rfl rfl rfl (by decide +kernel) ⟨(Nat.le_of_ble_eq_true rfl), (Nat.le_of_ble_eq_true rfl)⟩) ⟨cPre.blind, t_recv hw (ci := 6) k_f1 rfl rfl, cPre.use hw.2.1 hw.1 hw.2.2.1 hE⟩ rfl rfl hl.1 rfl (lv_room (Nat.le_of_ble_eq_true rfl)) dX7_readTest_52 ⟨(Nat.le_of_ble_eq_true rfl), (Nat.le_of_ble_eq_true rfl)⟩) hw hA (fun _ h => h.1) (fun w_6 H locs hp hw => ?_)
            obtain ⟨_, hm⟩ := hp
            have hM := hM.trans hm (by decide) (by decide)
            have f_a0_X7_0 := hm.1 _ _ _ _ f_a0_X7_0 (by decide)
            have f_a0_X7_1 := hm.1 _ _ _ _ f_a0_X7_1 (by decide)
            exact J55 _ _ _ w_6 hw hM f_a0_X7_0 f_a0_X7_1 (lv_sub hl [1, 2, 3, 4, 0] rfl)
      · simp only [fa_lt, fa_le, fa_eq, li_m1] at c_30
        refine lv_goto (tgt := 96) hx hb dX7_readTest_33 (by decide) ?_
        exact J96 _ _ _ w_3 hw hM f_a0_X7_0 f_a0_X7_1 (lv_sub hl [1, 2, 3, 4] rfl)
  exact J9 _ _ _ _ ⟨w_1, 0, 0, hw, hM, (by decide), (by decide), (by decide), (by decide), f_a0_X7_0, f_a0_X7_1, (lv_sub hl [2, 3, 1, 0] rfl), rfl⟩
set_option maxHeartbeats 4000000 in
set_option maxRecDepth 100000 in
theorem t_X7_readFact_7 (l : Launch) (dC : Nat → ClassId) (dI : Nat → Nat → Nat) (tys : List (ClassId × FieldType)) (κ : tK) (B : Nat) (ws : va_W) (hT : Ty κ tys B ws) (aK aV : Nat → Nat) (a0 : Nat) (k_a0 : κ a0 = some 7) (a1 : Int32) (l_a1 : 7 ≤ a1.toInt) (h_a1 : a1.toInt ≤ 7) (f0 : Nat) (k_f0 : κ f0 = some 9) (f_a0_X7_0 : fld ws a0 7 0 (.ref f0)) (f1 : Nat) (k_f1 : κ f1 = some 6) (f_a0_X7_1 : fld ws a0 7 1 (.ref f1)) (sz : Nat) : Met l yX7_readFact (ws_u yX7_readFact cX7_readFact 6 none) ({ frames := 14, cells := 0, slots := 0, locals := 328 }) (va_Pc [.ref a0, .int a1] (cPreS (dC, dI) aK aV tys ws sz)) (va_Qv (fun (w : va_W) => Ty κ tys B w ∧ Sm [(6, 1), (7, 2), (9, 2), (9, 3)] [38] κ ws w) (fun w t => cPost (dC, dI) tys w (va_A ws sz) t) (va_A ws sz)) 0 0 (va_A ws sz) := by
  refine Met.ofW (cc := cX7_readFact) (maxL := 6) (ret := none) (by decide) rfl ?_
  intro p e s m args below meth c s₁ B0 hml hv
  obtain ⟨rfl, ⟨hsz, hP, hK, hD0, hE⟩, hStr, hR⟩ := hv
  have hx := B0.exec
  have hb := B0.bytes
  have hr := B0.returns
  have hts0 := atoms_spec (ws := ws_u yX7_readFact cX7_readFact 6 none) B0.pre
  have hts : ∀ w ∈ gT, w.before _ s = true := fun w h => hts0 w (List.mem_cons_of_mem _ h)
  have hown : s.vm.findClass RX7 = some m.cls := findClass_of_methodNamed B0.named
  have hlocks := B0.notSynchronized
  subst hsz
  have hD := hD0.self (sz := s.heap.size)
  generalize hAe : va_A ws s.heap.size = A at hD hStr ⊢
  have hA : ∀ q : Nat, s.heap.size ≤ q → A q := fun q h => by rw [← hAe]; exact Or.inr h
  have hw : tW (dC, dI) tys κ B A s ws s.heap [] := ⟨hK, hP, hD, va_S.rf, hT⟩
  have hM : Sm [(6, 1), (7, 2), (9, 2), (9, 3)] [38] κ ws ws := Sm.rf
  clear hP hK hD hD0 hts0
  have hl := lv_entry ([.ref a0, .int a1]) (n := 6) (Nat.le_of_ble_eq_true rfl)
  rw [lg_entry_eq]
  generalize (lg_sl ([.ref a0, .int a1]) ++ List.replicate (6 - (lg_sl ([.ref a0, .int a1])).length) Slot.unset).toArray = ls at hl ⊢
  have hl : lv_has ls 6 [(0, .ref a0), (1, .int a1)] := hl
  refine t_start (fun QQ hQ => ?_)
  refine lv_aload_n hx hb dX7_readFact_0 rfl (lv_at hl 0 rfl) ?_
  refine t_getk (ci := 7) (C := RX7) (T := TX7) (N := 3) hx hb hts iX7 hown hw rfl 0 (by decide) (hts _ tw_166) (fun _ h9 => h9) dX7_readFact_1 f_a0_X7_0 ?_
  refine t_geti (ci := 9) (C := RX9) (T := TX9) (N := 4) hx hb hts iX9 hown hw k_f0 rfl rfl rfl 2 (by decide) (hts _ tw_39) (fun _ h9 => h9) dX7_readFact_4 rfl (fun v4 l_v4 h_v4 f_f0_X9_2 => ?_)
  have l_v4 : 0 ≤ v4.toInt := l_v4
  have h_v4 : v4.toInt ≤ 400 := h_v4
  refine lv_istore_n (lv' := [(2, .int v4), (0, .ref a0), (1, .int a1)]) hx hb dX7_readFact_7 rfl hl (by decide) rfl (fun ls hl => ?_)
  refine lv_aload_n hx hb dX7_readFact_8 rfl (lv_at hl 1 rfl) ?_
  refine t_getk (ci := 7) (C := RX7) (T := TX7) (N := 3) hx hb hts iX7 hown hw rfl 0 (by decide) (hts _ tw_166) (fun _ h9 => h9) dX7_readFact_9 f_a0_X7_0 ?_
  refine va_ldcS hx hb hown hR.2.2.2.1 dX7_readFact_12 ?_
  refine t_calli (va_runV (As := [.ref (aK 3)]) (rest := []) ⟨hx, hb, hml, hown, hts⟩ (t_X9_takeWord l dC dI tys κ B ws hw.2.2.2.2 aK aV f0 k_f0 3 (by decide) s.heap.size) (cwV 1 hts (gUV tw_643 tw_506 tw_507 tw_2 tw_508) rfl rfl rfl (by decide +kernel) ⟨(Nat.le_of_ble_eq_true rfl), (Nat.le_of_ble_eq_true rfl)⟩) ⟨cPreS.blind, t_recv hw (ci := 9) k_f0 rfl rfl, cPreS.use hw.2.1 hw.1 hw.2.2.1 hE hStr hR hw.2.2.2.1 (hw.free hA)⟩ rfl rfl hl.1 rfl (lv_room (Nat.le_of_ble_eq_true rfl)) dX7_readFact_14 ⟨(Nat.le_of_ble_eq_true rfl), (Nat.le_of_ble_eq_true rfl)⟩) hw hA (fun _ _ h => h.1) (fun v14 w_1 H locs hp hw => ?_)
  obtain ⟨_, hm⟩ := hp
  have l_v14 := i32_lo v14
  have h_v14 := i32_hi v14
  have hM := hM.trans hm (by decide) (by decide)
  have f_a0_X7_0 := hm.1 _ _ _ _ f_a0_X7_0 (by decide)
  have f_a0_X7_1 := hm.1 _ _ _ _ f_a0_X7_1 (by decide)
  refine lv_iconst (v := (-1)) hx hb dX7_readFact_17 (by decide) ?_
  refine lv_icmp_eq (tgt := 25) hx hb dX7_readFact_18 (by decide) (fun c_18 => ?_) (fun c_18 => ?_)
  · simp only [fa_lt, fa_le, fa_eq, li_m1] at c_18
    refine lv_iconst (v := 0) hx hb dX7_readFact_25 (by decide) ?_
    refine lv_istore_n (lv' := [(3, .int 0), (2, .int v4), (0, .ref a0), (1, .int a1)]) hx hb dX7_readFact_26 rfl hl (by decide) rfl (fun ls hl => ?_)
    refine lv_iload_n hx hb dX7_readFact_27 rfl (lv_at hl 0 rfl) ?_
    refine lv_if_ne (tgt := 47) hx hb dX7_readFact_28 (by decide) (fun c_28 => absurd c_28 (by decide)) (fun _ => ?_)
    refine lv_aload_n hx hb dX7_readFact_31 rfl (lv_at hl 2 rfl) ?_
    refine t_getk (ci := 7) (C := RX7) (T := TX7) (N := 3) hx hb hts iX7 hown hw rfl 0 (by decide) (hts _ tw_166) (fun _ h9 => h9) dX7_readFact_32 f_a0_X7_0 ?_
    refine lv_bipush (v := 91) hx hb dX7_readFact_35 (by decide) ?_
    refine t_calli (va_runV (As := [.int 91]) (rest := []) ⟨hx, hb, hml, hown, hts⟩ (t_X9_takeSign l dC dI tys κ B w_1 hw.2.2.2.2 f0 k_f0 91 (by decide) (by decide) H.size) (cwV 1 hts (gUV tw_673 tw_603 tw_604 tw_2 tw_605) rfl rfl rfl (by decide +kernel) ⟨(Nat.le_of_ble_eq_true rfl), (Nat.le_of_ble_eq_true rfl)⟩) ⟨cPre.blind, t_recv hw (ci := 9) k_f0 rfl rfl, cPre.use hw.2.1 hw.1 hw.2.2.1 hE⟩ rfl rfl hl.1 rfl (lv_room (Nat.le_of_ble_eq_true rfl)) dX7_readFact_37 ⟨(Nat.le_of_ble_eq_true rfl), (Nat.le_of_ble_eq_true rfl)⟩) hw hA (fun _ _ h => h.2.2.1) (fun v37 w_2 H locs hp hw => ?_)
    obtain ⟨l_v37, h_v37, _, hm⟩ := hp
    have hM := hM.trans hm (by decide) (by decide)
    have f_a0_X7_0 := hm.1 _ _ _ _ f_a0_X7_0 (by decide)
    have f_a0_X7_1 := hm.1 _ _ _ _ f_a0_X7_1 (by decide)
    refine lv_if_eq (tgt := 47) hx hb dX7_readFact_40 (by decide) (fun c_40 => ?_) (fun c_40 => ?_)
    · simp only [fa_lt, fa_le, fa_eq, li_0] at c_40
      refine lv_iconst (v := 0) hx hb dX7_readFact_47 (by decide) ?_
      refine lv_istore (lv' := [(4, .int 0), (3, .int 0), (2, .int v4), (0, .ref a0), (1, .int a1)]) hx hb dX7_readFact_48 hl (by decide) rfl (fun ls hl => ?_)
      refine lv_iload_n hx hb dX7_readFact_50 rfl (lv_at hl 1 rfl) ?_
      refine lv_if_ne (tgt := 59) hx hb dX7_readFact_51 (by decide) (fun c_51 => absurd c_51 (by decide)) (fun _ => ?_)
      refine lv_iload hx hb dX7_readFact_54 (lv_at hl 0 rfl) ?_
      refine lv_if_eq (tgt := 77) hx hb dX7_readFact_56 (by decide) (fun _ => ?_) (fun c_56 => absurd c_56 (by decide))
      refine lv_iload_n hx hb dX7_readFact_77 rfl (lv_at hl 1 rfl) ?_
      refine lv_if_eq (tgt := 100) hx hb dX7_readFact_78 (by decide) (fun _ => ?_) (fun c_78 => absurd c_78 (by decide))
      refine lv_iload hx hb dX7_readFact_100 (lv_at hl 0 rfl) ?_
      refine lv_if_eq (tgt := 142) hx hb dX7_readFact_102 (by decide) (fun _ => ?_) (fun c_102 => absurd c_102 (by decide))
      refine lv_aload_n hx hb dX7_readFact_142 rfl (lv_at hl 3 rfl) ?_
      refine t_callv (va_runV (As := []) (rest := []) ⟨hx, hb, hml, hown, hts⟩ (t_X7_readSum l dC dI tys κ B w_2 hw.2.2.2.2 aK aV a0 k_a0 f0 k_f0 f_a0_X7_0 f1 k_f1 f_a0_X7_1 H.size) (cwV 0 hts (gUV tw_649 tw_651 ts_0_8 tw_5 tw_652) rfl rfl rfl (by decide +kernel) ⟨(Nat.le_of_ble_eq_true rfl), (Nat.le_of_ble_eq_true rfl)⟩) ⟨cPreS.blind, t_recv hw (ci := 7) k_a0 rfl rfl, cPreS.use hw.2.1 hw.1 hw.2.2.1 hE hStr hR hw.2.2.2.1 (hw.free hA)⟩ rfl rfl hl.1 rfl (lv_room (Nat.le_of_ble_eq_true rfl)) dX7_readFact_143 ⟨(Nat.le_of_ble_eq_true rfl), (Nat.le_of_ble_eq_true rfl)⟩) hw hA (fun _ h => h.1) (fun w_3 H locs hp hw => ?_)
      obtain ⟨_, hm⟩ := hp
      have hM := hM.trans hm (by decide) (by decide)
      have f_a0_X7_0 := hm.1 _ _ _ _ f_a0_X7_0 (by decide)
      have f_a0_X7_1 := hm.1 _ _ _ _ f_a0_X7_1 (by decide)
      refine lv_aload_n hx hb dX7_readFact_146 rfl (lv_at hl 3 rfl) ?_
      refine t_calli (va_runV (As := []) (rest := []) ⟨hx, hb, hml, hown, hts⟩ (t_X7_readSign l dC dI tys κ B w_3 hw.2.2.2.2 a0 k_a0 f0 k_f0 f_a0_X7_0 H.size) (cwV 0 hts (gUV tw_688 tw_690 ts_0_14 tw_5 tw_691) rfl rfl rfl (by decide +kernel) ⟨(Nat.le_of_ble_eq_true rfl), (Nat.le_of_ble_eq_true rfl)⟩) ⟨cPre.blind, t_recv hw (ci := 7) k_a0 rfl rfl, cPre.use hw.2.1 hw.1 hw.2.2.1 hE⟩ rfl rfl hl.1 rfl (lv_room (Nat.le_of_ble_eq_true rfl)) dX7_readFact_147 ⟨(Nat.le_of_ble_eq_true rfl), (Nat.le_of_ble_eq_true rfl)⟩) hw hA (fun _ _ h => h.2.2.1) (fun v147 w_4 H locs hp hw => ?_)
      obtain ⟨l_v147, h_v147, _, hm⟩ := hp
      have hM := hM.trans hm (by decide) (by decide)
      have f_a0_X7_0 := hm.1 _ _ _ _ f_a0_X7_0 (by decide)
      have f_a0_X7_1 := hm.1 _ _ _ _ f_a0_X7_1 (by decide)
      refine lv_istore (lv' := [(5, .int v147), (4, .int 0), (3, .int 0), (2, .int v4), (0, .ref a0), (1, .int a1)]) hx hb dX7_readFact_150 hl (by decide) rfl (fun ls hl => ?_)
      refine lv_aload_n hx hb dX7_readFact_152 rfl (lv_at hl 4 rfl) ?_
      refine t_callv (va_runV (As := []) (rest := []) ⟨hx, hb, hml, hown, hts⟩ (t_X7_readSum l dC dI tys κ B w_4 hw.2.2.2.2 aK aV a0 k_a0 f0 k_f0 f_a0_X7_0 f1 k_f1 f_a0_X7_1 H.size) (cwV 0 hts (gUV tw_649 tw_651 ts_0_8 tw_5 tw_652) rfl rfl rfl (by decide +kernel) ⟨(Nat.le_of_ble_eq_true rfl), (Nat.le_of_ble_eq_true rfl)⟩) ⟨cPreS.blind, t_recv hw (ci := 7) k_a0 rfl rfl, cPreS.use hw.2.1 hw.1 hw.2.2.1 hE hStr hR hw.2.2.2.1 (hw.free hA)⟩ rfl rfl hl.1 rfl (lv_room (Nat.le_of_ble_eq_true rfl)) dX7_readFact_153 ⟨(Nat.le_of_ble_eq_true rfl), (Nat.le_of_ble_eq_true rfl)⟩) hw hA (fun _ h => h.1) (fun w_5 H locs hp hw => ?_)
      obtain ⟨_, hm⟩ := hp
      have hM := hM.trans hm (by decide) (by decide)
      have f_a0_X7_0 := hm.1 _ _ _ _ f_a0_X7_0 (by decide)
      have f_a0_X7_1 := hm.1 _ _ _ _ f_a0_X7_1 (by decide)
      refine lv_aload_n hx hb dX7_readFact_156 rfl (lv_at hl 4 rfl) ?_
      refine t_getk (ci := 7) (C := RX7) (T := TX7) (N := 3) hx hb hts iX7 hown hw rfl 1 (by decide) (hts _ tw_167) (fun _ h9 => h9) dX7_readFact_157 f_a0_X7_1 ?_
      refine lv_iload hx hb dX7_readFact_160 (lv_at hl 0 rfl) ?_
      refine t_callv (va_runV (As := [.int v147]) (rest := []) ⟨hx, hb, hml, hown, hts⟩ (t_X6_add l dC dI tys κ B w_5 hw.2.2.2.2 f1 k_f1 v147 H.size) (cwV 1 hts (gUV tw_660 tw_661 tw_662 tw_6 tw_663) rfl rfl rfl (by decide +kernel) ⟨(Nat.le_of_ble_eq_true rfl), (Nat.le_of_ble_eq_true rfl)⟩) ⟨cPre.blind, t_recv hw (ci := 6) k_f1 rfl rfl, cPre.use hw.2.1 hw.1 hw.2.2.1 hE⟩ rfl rfl hl.1 rfl (lv_room (Nat.le_of_ble_eq_true rfl)) dX7_readFact_162 ⟨(Nat.le_of_ble_eq_true rfl), (Nat.le_of_ble_eq_true rfl)⟩) hw hA (fun _ h => h.1) (fun w_6 H locs hp hw => ?_)
      obtain ⟨_, hm⟩ := hp
      have hM := hM.trans hm (by decide) (by decide)
      have f_a0_X7_0 := hm.1 _ _ _ _ f_a0_X7_0 (by decide)
      have f_a0_X7_1 := hm.1 _ _ _ _ f_a0_X7_1 (by decide)
      rw [hQ]
      refine W.widen (k := 0) (n := 0) (Nat.le_refl _) (Nat.le_refl _) ?_
      exact W.vret hx hb hr (fun t ht hW => ⟨⟨w_6, rfl, ⟨hw.2.2.2.2, hM⟩, by rw [ht]; exact hw.2.1, va_K.moved hW.alike hw.1, hw.2.2.1⟩, hw.2.2.2.1.F ht⟩) hw.2.2.2.1.2.2 dX7_readFact_165
    · simp only [fa_lt, fa_le, fa_eq, li_0] at c_40
      refine lv_iconst (v := 1) hx hb dX7_readFact_43 (by decide) ?_
      refine lv_goto (tgt := 48) hx hb dX7_readFact_44 (by decide) ?_
      refine lv_istore (lv' := [(4, .int 1), (3, .int 0), (2, .int v4), (0, .ref a0), (1, .int a1)]) hx hb dX7_readFact_48 hl (by decide) rfl (fun ls hl => ?_)
      refine lv_iload_n hx hb dX7_readFact_50 rfl (lv_at hl 1 rfl) ?_
      refine lv_if_ne (tgt := 59) hx hb dX7_readFact_51 (by decide) (fun c_51 => absurd c_51 (by decide)) (fun _ => ?_)
      refine lv_iload hx hb dX7_readFact_54 (lv_at hl 0 rfl) ?_
      refine lv_if_eq (tgt := 77) hx hb dX7_readFact_56 (by decide) (fun c_56 => absurd c_56 (by decide)) (fun _ => ?_)
      refine lv_iload_n hx hb dX7_readFact_59 rfl (lv_at hl 4 rfl) ?_
      refine lv_bipush (v := 10) hx hb dX7_readFact_60 (by decide) ?_
      refine lv_icmp_lt (tgt := 77) hx hb dX7_readFact_62 (by decide) (fun c_62 => ?_) (fun c_62 => by exfalso; simp only [fa_lt, fa_le, fa_eq, li_10] at c_62; omega)
      simp only [fa_lt, fa_le, fa_eq, li_10] at c_62
      refine lv_iload_n hx hb dX7_readFact_77 rfl (lv_at hl 1 rfl) ?_
      refine lv_if_eq (tgt := 100) hx hb dX7_readFact_78 (by decide) (fun _ => ?_) (fun c_78 => absurd c_78 (by decide))
      refine lv_iload hx hb dX7_readFact_100 (lv_at hl 0 rfl) ?_
      refine lv_if_eq (tgt := 142) hx hb dX7_readFact_102 (by decide) (fun c_102 => absurd c_102 (by decide)) (fun _ => ?_)
      refine lv_aload_n hx hb dX7_readFact_105 rfl (lv_at hl 3 rfl) ?_
      refine lv_iload_n hx hb dX7_readFact_106 rfl (lv_at hl 4 rfl) ?_
      refine lv_iconst (v := 1) hx hb dX7_readFact_107 (by decide) ?_
      refine lv_iadd hx hb dX7_readFact_108 ?_
      refine lv_topi (fun v108 e_v108 => ?_)
      have e_v108 : v108.toInt = a1.toInt + 1 := ad_i e_v108 rfl li_1 (by omega) (by omega)
      refine t_callv (va_runV (As := [.int v108]) (rest := []) ⟨hx, hb, hml, hown, hts⟩ (t_X7_readTest_8 l dC dI tys κ B w_2 hw.2.2.2.2 aK aV a0 k_a0 v108 (by omega) (by omega) f0 k_f0 f_a0_X7_0 f1 k_f1 f_a0_X7_1 H.size) (cwV 1 hts (gUV tw_679 tw_681 ts_0_12 tw_5 tw_682) rfl rfl rfl (by decide +kernel) ⟨(Nat.le_of_ble_eq_true rfl), (Nat.le_of_ble_eq_true rfl)⟩) ⟨cPreS.blind, t_recv hw (ci := 7) k_a0 rfl rfl, cPreS.use hw.2.1 hw.1 hw.2.2.1 hE hStr hR hw.2.2.2.1 (hw.free hA)⟩ rfl rfl hl.1 rfl (lv_room (Nat.le_of_ble_eq_true rfl)) dX7_readFact_109 ⟨(Nat.le_of_ble_eq_true rfl), (Nat.le_of_ble_eq_true rfl)⟩) hw hA (fun _ h => h.1) (fun w_7 H locs hp hw => ?_)
      obtain ⟨_, hm⟩ := hp
      have hM := hM.trans hm (by decide) (by decide)
      have f_a0_X7_0 := hm.1 _ _ _ _ f_a0_X7_0 (by decide)
      have f_a0_X7_1 := hm.1 _ _ _ _ f_a0_X7_1 (by decide)
      refine lv_aload_n hx hb dX7_readFact_112 rfl (lv_at hl 3 rfl) ?_
      refine t_getk (ci := 7) (C := RX7) (T := TX7) (N := 3) hx hb hts iX7 hown hw rfl 0 (by decide) (hts _ tw_166) (fun _ h9 => h9) dX7_readFact_113 f_a0_X7_0 ?_
      refine lv_bipush (v := 93) hx hb dX7_readFact_116 (by decide) ?_
      refine t_calli (va_runV (As := [.int 93]) (rest := []) ⟨hx, hb, hml, hown, hts⟩ (t_X9_takeSign l dC dI tys κ B w_7 hw.2.2.2.2 f0 k_f0 93 (by decide) (by decide) H.size) (cwV 1 hts (gUV tw_673 tw_603 tw_604 tw_2 tw_605) rfl rfl rfl (by decide +kernel) ⟨(Nat.le_of_ble_eq_true rfl), (Nat.le_of_ble_eq_true rfl)⟩) ⟨cPre.blind, t_recv hw (ci := 9) k_f0 rfl rfl, cPre.use hw.2.1 hw.1 hw.2.2.1 hE⟩ rfl rfl hl.1 rfl (lv_room (Nat.le_of_ble_eq_true rfl)) dX7_readFact_118 ⟨(Nat.le_of_ble_eq_true rfl), (Nat.le_of_ble_eq_true rfl)⟩) hw hA (fun _ _ h => h.2.2.1) (fun v118 w_8 H locs hp hw => ?_)
      obtain ⟨l_v118, h_v118, _, hm⟩ := hp
      have hM := hM.trans hm (by decide) (by decide)
      have f_a0_X7_0 := hm.1 _ _ _ _ f_a0_X7_0 (by decide)
      have f_a0_X7_1 := hm.1 _ _ _ _ f_a0_X7_1 (by decide)
      refine lv_if_ne (tgt := 165) hx hb dX7_readFact_121 (by decide) (fun c_121 => ?_) (fun c_121 => ?_)
      · simp only [fa_lt, fa_le, fa_eq, li_0] at c_121
        rw [hQ]
        refine W.widen (k := 0) (n := 0) (Nat.le_refl _) (Nat.le_refl _) ?_
        exact W.vret hx hb hr (fun t ht hW => ⟨⟨w_8, rfl, ⟨hw.2.2.2.2, hM⟩, by rw [ht]; exact hw.2.1, va_K.moved hW.alike hw.1, hw.2.2.1⟩, hw.2.2.2.1.F ht⟩) hw.2.2.2.1.2.2 dX7_readFact_165
      · simp only [fa_lt, fa_le, fa_eq, li_0] at c_121
        refine lv_aload_n hx hb dX7_readFact_124 rfl (lv_at hl 3 rfl) ?_
        refine t_getk (ci := 7) (C := RX7) (T := TX7) (N := 3) hx hb hts iX7 hown hw rfl 0 (by decide) (hts _ tw_166) (fun _ h9 => h9) dX7_readFact_125 f_a0_X7_0 ?_
        refine lv_aload_n hx hb dX7_readFact_128 rfl (lv_at hl 3 rfl) ?_
        refine t_getk (ci := 7) (C := RX7) (T := TX7) (N := 3) hx hb hts iX7 hown hw rfl 0 (by decide) (hts _ tw_166) (fun _ h9 => h9) dX7_readFact_129 f_a0_X7_0 ?_
        refine t_geti (ci := 9) (C := RX9) (T := TX9) (N := 4) hx hb hts iX9 hown hw k_f0 rfl rfl rfl 2 (by decide) (hts _ tw_39) (fun _ h9 => h9) dX7_readFact_132 rfl (fun v132 l_v132 h_v132 f_f0_X9_2 => ?_)
        have l_v132 : 0 ≤ v132.toInt := l_v132
        have h_v132 : v132.toInt ≤ 400 := h_v132
        refine lv_iconst (v := 0) hx hb dX7_readFact_135 (by decide) ?_
        refine t_callv (va_runV (As := [.int v132, .int 0]) (rest := []) ⟨hx, hb, hml, hown, hts⟩ (t_X9_fail l dC dI tys κ B w_8 hw.2.2.2.2 f0 k_f0 v132 (by omega) (by omega) 0 (by decide) (by decide) H.size) (cwV 2 hts (gUV tw_644 tw_562 tw_563 tw_2 tw_564) rfl rfl rfl (by decide +kernel) ⟨(Nat.le_of_ble_eq_true rfl), (Nat.le_of_ble_eq_true rfl)⟩) ⟨cPre.blind, t_recv hw (ci := 9) k_f0 rfl rfl, cPre.use hw.2.1 hw.1 hw.2.2.1 hE⟩ rfl rfl hl.1 rfl (lv_room (Nat.le_of_ble_eq_true rfl)) dX7_readFact_136 ⟨(Nat.le_of_ble_eq_true rfl), (Nat.le_of_ble_eq_true rfl)⟩) hw hA (fun _ h => h.1) (fun w_9 H locs hp hw => ?_)
        obtain ⟨_, hm, ⟨v136f, l_v136f, h_v136f, f_f0_X9_3⟩⟩ := hp
        have zc_0 := li_0
        have hM := hM.trans hm (by decide) (by decide)
        have f_a0_X7_0 := hm.1 _ _ _ _ f_a0_X7_0 (by decide)
        have f_a0_X7_1 := hm.1 _ _ _ _ f_a0_X7_1 (by decide)
        have f_f0_X9_2 := hm.1 _ _ _ _ f_f0_X9_2 (by decide)
        refine lv_goto (tgt := 165) hx hb dX7_readFact_139 (by decide) ?_
        rw [hQ]
        refine W.widen (k := 0) (n := 0) (Nat.le_refl _) (Nat.le_refl _) ?_
        exact W.vret hx hb hr (fun t ht hW => ⟨⟨w_9, rfl, ⟨hw.2.2.2.2, hM⟩, by rw [ht]; exact hw.2.1, va_K.moved hW.alike hw.1, hw.2.2.1⟩, hw.2.2.2.1.F ht⟩) hw.2.2.2.1.2.2 dX7_readFact_165
  · simp only [fa_lt, fa_le, fa_eq, li_m1] at c_18
    refine lv_iconst (v := 1) hx hb dX7_readFact_21 (by decide) ?_
    refine lv_goto (tgt := 26) hx hb dX7_readFact_22 (by decide) ?_
    refine lv_istore_n (lv' := [(3, .int 1), (2, .int v4), (0, .ref a0), (1, .int a1)]) hx hb dX7_readFact_26 rfl hl (by decide) rfl (fun ls hl => ?_)
    refine lv_iload_n hx hb dX7_readFact_27 rfl (lv_at hl 0 rfl) ?_
    refine lv_if_ne (tgt := 47) hx hb dX7_readFact_28 (by decide) (fun _ => ?_) (fun c_28 => absurd c_28 (by decide))
    refine lv_iconst (v := 0) hx hb dX7_readFact_47 (by decide) ?_
    refine lv_istore (lv' := [(4, .int 0), (3, .int 1), (2, .int v4), (0, .ref a0), (1, .int a1)]) hx hb dX7_readFact_48 hl (by decide) rfl (fun ls hl => ?_)
    refine lv_iload_n hx hb dX7_readFact_50 rfl (lv_at hl 1 rfl) ?_
    refine lv_if_ne (tgt := 59) hx hb dX7_readFact_51 (by decide) (fun _ => ?_) (fun c_51 => absurd c_51 (by decide))
    refine lv_iload_n hx hb dX7_readFact_59 rfl (lv_at hl 4 rfl) ?_
    refine lv_bipush (v := 10) hx hb dX7_readFact_60 (by decide) ?_
    refine lv_icmp_lt (tgt := 77) hx hb dX7_readFact_62 (by decide) (fun c_62 => ?_) (fun c_62 => by exfalso; simp only [fa_lt, fa_le, fa_eq, li_10] at c_62; omega)
    simp only [fa_lt, fa_le, fa_eq, li_10] at c_62
    refine lv_iload_n hx hb dX7_readFact_77 rfl (lv_at hl 1 rfl) ?_
    refine lv_if_eq (tgt := 100) hx hb dX7_readFact_78 (by decide) (fun c_78 => absurd c_78 (by decide)) (fun _ => ?_)
    refine lv_aload_n hx hb dX7_readFact_81 rfl (lv_at hl 3 rfl) ?_
    refine lv_iload_n hx hb dX7_readFact_82 rfl (lv_at hl 4 rfl) ?_
    refine lv_iconst (v := 1) hx hb dX7_readFact_83 (by decide) ?_
    refine lv_iadd hx hb dX7_readFact_84 ?_
    refine lv_topi (fun v84 e_v84 => ?_)
    have e_v84 : v84.toInt = a1.toInt + 1 := ad_i e_v84 rfl li_1 (by omega) (by omega)
    refine t_callv (va_runV (As := [.int v84]) (rest := []) ⟨hx, hb, hml, hown, hts⟩ (t_X7_readFact_8 l dC dI tys κ B w_1 hw.2.2.2.2 aK aV a0 k_a0 v84 (by omega) (by omega) f0 k_f0 f_a0_X7_0 f1 k_f1 f_a0_X7_1 H.size) (cwV 1 hts (gUV tw_683 tw_685 ts_0_13 tw_5 tw_686) rfl rfl rfl (by decide +kernel) ⟨(Nat.le_of_ble_eq_true rfl), (Nat.le_of_ble_eq_true rfl)⟩) ⟨cPreS.blind, t_recv hw (ci := 7) k_a0 rfl rfl, cPreS.use hw.2.1 hw.1 hw.2.2.1 hE hStr hR hw.2.2.2.1 (hw.free hA)⟩ rfl rfl hl.1 rfl (lv_room (Nat.le_of_ble_eq_true rfl)) dX7_readFact_85 ⟨(Nat.le_of_ble_eq_true rfl), (Nat.le_of_ble_eq_true rfl)⟩) hw hA (fun _ h => h.1) (fun w_10 H locs hp hw => ?_)
    obtain ⟨_, hm⟩ := hp
    have hM := hM.trans hm (by decide) (by decide)
    have f_a0_X7_0 := hm.1 _ _ _ _ f_a0_X7_0 (by decide)
    have f_a0_X7_1 := hm.1 _ _ _ _ f_a0_X7_1 (by decide)
    refine lv_aload_n hx hb dX7_readFact_88 rfl (lv_at hl 3 rfl) ?_
    refine t_getk (ci := 7) (C := RX7) (T := TX7) (N := 3) hx hb hts iX7 hown hw rfl 1 (by decide) (hts _ tw_167) (fun _ h9 => h9) dX7_readFact_89 f_a0_X7_1 ?_
    refine lv_bipush (v := (-24)) hx hb dX7_readFact_92 (by decide) ?_
    refine t_callv (va_runV (As := [.int (-24)]) (rest := []) ⟨hx, hb, hml, hown, hts⟩ (t_X6_add l dC dI tys κ B w_10 hw.2.2.2.2 f1 k_f1 (-24) H.size) (cwV 1 hts (gUV tw_660 tw_661 tw_662 tw_6 tw_663) rfl rfl rfl (by decide +kernel) ⟨(Nat.le_of_ble_eq_true rfl), (Nat.le_of_ble_eq_true rfl)⟩) ⟨cPre.blind, t_recv hw (ci := 6) k_f1 rfl rfl, cPre.use hw.2.1 hw.1 hw.2.2.1 hE⟩ rfl rfl hl.1 rfl (lv_room (Nat.le_of_ble_eq_true rfl)) dX7_readFact_94 ⟨(Nat.le_of_ble_eq_true rfl), (Nat.le_of_ble_eq_true rfl)⟩) hw hA (fun _ h => h.1) (fun w_11 H locs hp hw => ?_)
    obtain ⟨_, hm⟩ := hp
    have hM := hM.trans hm (by decide) (by decide)
    have f_a0_X7_0 := hm.1 _ _ _ _ f_a0_X7_0 (by decide)
    have f_a0_X7_1 := hm.1 _ _ _ _ f_a0_X7_1 (by decide)
    refine lv_goto (tgt := 165) hx hb dX7_readFact_97 (by decide) ?_
    rw [hQ]
    refine W.widen (k := 0) (n := 0) (Nat.le_refl _) (Nat.le_refl _) ?_
    exact W.vret hx hb hr (fun t ht hW => ⟨⟨w_11, rfl, ⟨hw.2.2.2.2, hM⟩, by rw [ht]; exact hw.2.1, va_K.moved hW.alike hw.1, hw.2.2.1⟩, hw.2.2.2.1.F ht⟩) hw.2.2.2.1.2.2 dX7_readFact_165
set_option maxHeartbeats 4000000 in
set_option maxRecDepth 100000 in
theorem t_X7_readTest_7 (l : Launch) (dC : Nat → ClassId) (dI : Nat → Nat → Nat) (tys : List (ClassId × FieldType)) (κ : tK) (B : Nat) (ws : va_W) (hT : Ty κ tys B ws) (aK aV : Nat → Nat) (a0 : Nat) (k_a0 : κ a0 = some 7) (a1 : Int32) (l_a1 : 7 ≤ a1.toInt) (h_a1 : a1.toInt ≤ 7) (f0 : Nat) (k_f0 : κ f0 = some 9) (f_a0_X7_0 : fld ws a0 7 0 (.ref f0)) (f1 : Nat) (k_f1 : κ f1 = some 6) (f_a0_X7_1 : fld ws a0 7 1 (.ref f1)) (sz : Nat) : Met l yX7_readTest (ws_u yX7_readTest cX7_readTest 5 none) ({ frames := 15, cells := 0, slots := 0, locals := 353 }) (va_Pc [.ref a0, .int a1] (cPreS (dC, dI) aK aV tys ws sz)) (va_Qv (fun (w : va_W) => Ty κ tys B w ∧ Sm [(6, 1), (7, 2), (9, 2), (9, 3)] [38] κ ws w) (fun w t => cPost (dC, dI) tys w (va_A ws sz) t) (va_A ws sz)) 0 0 (va_A ws sz) := by
  refine Met.ofW (cc := cX7_readTest) (maxL := 5) (ret := none) (by decide) rfl ?_
  intro p e s m args below meth c s₁ B0 hml hv
  obtain ⟨rfl, ⟨hsz, hP, hK, hD0, hE⟩, hStr, hR⟩ := hv
  have hx := B0.exec
  have hb := B0.bytes
  have hr := B0.returns
  have hts0 := atoms_spec (ws := ws_u yX7_readTest cX7_readTest 5 none) B0.pre
  have hts : ∀ w ∈ gT, w.before _ s = true := fun w h => hts0 w (List.mem_cons_of_mem _ h)
  have hown : s.vm.findClass RX7 = some m.cls := findClass_of_methodNamed B0.named
  have hlocks := B0.notSynchronized
  subst hsz
  have hD := hD0.self (sz := s.heap.size)
  generalize hAe : va_A ws s.heap.size = A at hD hStr ⊢
  have hA : ∀ q : Nat, s.heap.size ≤ q → A q := fun q h => by rw [← hAe]; exact Or.inr h
  have hw : tW (dC, dI) tys κ B A s ws s.heap [] := ⟨hK, hP, hD, va_S.rf, hT⟩
  have hM : Sm [(6, 1), (7, 2), (9, 2), (9, 3)] [38] κ ws ws := Sm.rf
  clear hP hK hD hD0 hts0
  have hl := lv_entry ([.ref a0, .int a1]) (n := 5) (Nat.le_of_ble_eq_true rfl)
  rw [lg_entry_eq]
  generalize (lg_sl ([.ref a0, .int a1]) ++ List.replicate (5 - (lg_sl ([.ref a0, .int a1])).length) Slot.unset).toArray = ls at hl ⊢
  have hl : lv_has ls 5 [(0, .ref a0), (1, .int a1)] := hl
  refine t_start (fun QQ hQ => ?_)
  refine lv_iconst (v := 0) hx hb dX7_readTest_0 (by decide) ?_
  refine lv_istore_n (lv' := [(2, .int 0), (0, .ref a0), (1, .int a1)]) hx hb dX7_readTest_1 rfl hl (by decide) rfl (fun ls hl => ?_)
  refine lv_aload_n hx hb dX7_readTest_2 rfl (lv_at hl 1 rfl) ?_
  refine lv_iload_n hx hb dX7_readTest_3 rfl (lv_at hl 2 rfl) ?_
  refine t_callv (va_runV (As := [.int a1]) (rest := []) ⟨hx, hb, hml, hown, hts⟩ (t_X7_readFact_7 l dC dI tys κ B ws hw.2.2.2.2 aK aV a0 k_a0 a1 (by omega) (by omega) f0 k_f0 f_a0_X7_0 f1 k_f1 f_a0_X7_1 s.heap.size) (cwV 1 hts (gUV tw_683 tw_685 ts_0_13 tw_5 tw_686) rfl rfl rfl (by decide +kernel) ⟨(Nat.le_of_ble_eq_true rfl), (Nat.le_of_ble_eq_true rfl)⟩) ⟨cPreS.blind, t_recv hw (ci := 7) k_a0 rfl rfl, cPreS.use hw.2.1 hw.1 hw.2.2.1 hE hStr hR hw.2.2.2.1 (hw.free hA)⟩ rfl rfl hl.1 rfl (lv_room (Nat.le_of_ble_eq_true rfl)) dX7_readTest_4 ⟨(Nat.le_of_ble_eq_true rfl), (Nat.le_of_ble_eq_true rfl)⟩) hw hA (fun _ h => h.1) (fun w_1 H locs hp hw => ?_)
  obtain ⟨_, hm⟩ := hp
  have hM := hM.trans hm (by decide) (by decide)
  have f_a0_X7_0 := hm.1 _ _ _ _ f_a0_X7_0 (by decide)
  have f_a0_X7_1 := hm.1 _ _ _ _ f_a0_X7_1 (by decide)
  refine lv_iconst (v := 0) hx hb dX7_readTest_7 (by decide) ?_
  refine lv_istore_n (lv' := [(3, .int 0), (2, .int 0), (0, .ref a0), (1, .int a1)]) hx hb dX7_readTest_8 rfl hl (by decide) rfl (fun ls hl => ?_)
  have J9 : ∀ (n : Nat) (H : Heap) (locs : List Loc) (ls : Array Slot), (∃ (w9 : va_W) (p9_l2 : Int32) (p9_l3 : Int32), tW (dC, dI) tys κ B A s w9 H locs ∧ Sm [(6, 1), (7, 2), (9, 2), (9, 3)] [38] κ ws w9 ∧ 0 ≤ p9_l2.toInt ∧ p9_l2.toInt ≤ 1 ∧ 0 ≤ p9_l3.toInt ∧ p9_l3.toInt ≤ 401 ∧ fld w9 a0 7 0 (.ref f0) ∧ fld w9 a0 7 1 (.ref f1) ∧ lv_has ls 5 [(0, .ref a0), (1, .int a1), (2, .int p9_l2), (3, .int p9_l3)] ∧ (401 - p9_l3.toInt).toNat = n) → W p l e (headSpec (ws_u yX7_readTest cX7_readTest 5 none) ({ frames := 15, cells := 0, slots := 0, locals := 353 })).room s m ([.ref a0, .int a1] : List Value).toArray below meth c H locs 0 0 QQ (F0 m 9 ls []) := by
    refine loopT _ ?_
    intro n_9 H locs ls hI ih_9
    obtain ⟨w9, p9_l2, p9_l3, hw, hM, l_p9_l2, h_p9_l2, l_p9_l3, h_p9_l3, f_a0_X7_0, f_a0_X7_1, hl, hn_9⟩ := hI
    refine lv_iload_n hx hb dX7_readTest_9 rfl (lv_at hl 3 rfl) ?_
    refine lv_sipush (v := 400) hx hb dX7_readTest_10 (by decide) ?_
    have J96 : ∀ (H : Heap) (locs : List Loc) (ls : Array Slot) (w96 : va_W), tW (dC, dI) tys κ B A s w96 H locs → Sm [(6, 1), (7, 2), (9, 2), (9, 3)] [38] κ ws w96 → fld w96 a0 7 0 (.ref f0) → fld w96 a0 7 1 (.ref f1) → lv_has ls 5 [(0, .ref a0), (1, .int a1), (2, .int p9_l2), (3, .int p9_l3)] → W p l e (headSpec (ws_u yX7_readTest cX7_readTest 5 none) ({ frames := 15, cells := 0, slots := 0, locals := 353 })).room s m ([.ref a0, .int a1] : List Value).toArray below meth c H locs 0 0 QQ (F0 m 96 ls []) := by
      intro H locs ls w96 hw hM f_a0_X7_0 f_a0_X7_1 hl
      refine lv_iload_n hx hb dX7_readTest_96 rfl (lv_at hl 2 rfl) ?_
      refine lv_if_eq (tgt := 109) hx hb dX7_readTest_97 (by decide) (fun c_97 => ?_) (fun c_97 => ?_)
      · simp only [fa_lt, fa_le, fa_eq, li_0] at c_97
        rw [hQ]
        refine W.widen (k := 0) (n := 0) (Nat.le_refl _) (Nat.le_refl _) ?_
        exact W.vret hx hb hr (fun t ht hW => ⟨⟨w96, rfl, ⟨hw.2.2.2.2, hM⟩, by rw [ht]; exact hw.2.1, va_K.moved hW.alike hw.1, hw.2.2.1⟩, hw.2.2.2.1.F ht⟩) hw.2.2.2.1.2.2 dX7_readTest_109
      · simp only [fa_lt, fa_le, fa_eq, li_0] at c_97
        refine lv_aload_n hx hb dX7_readTest_100 rfl (lv_at hl 0 rfl) ?_
        refine t_getk (ci := 7) (C := RX7) (T := TX7) (N := 3) hx hb hts iX7 hown hw rfl 1 (by decide) (hts _ tw_167) (fun _ h9 => h9) dX7_readTest_101 f_a0_X7_1 ?_
        refine lv_bipush (v := (-23)) hx hb dX7_readTest_104 (by decide) ?_
        refine t_callv (va_runV (As := [.int (-23)]) (rest := []) ⟨hx, hb, hml, hown, hts⟩ (t_X6_add l dC dI tys κ B w96 hw.2.2.2.2 f1 k_f1 (-23) H.size) (cwV 1 hts (gUV tw_660 tw_661 tw_662 tw_6 tw_663) rfl rfl rfl (by decide +kernel) ⟨(Nat.le_of_ble_eq_true rfl), (Nat.le_of_ble_eq_true rfl)⟩) ⟨cPre.blind, t_recv hw (ci := 6) k_f1 rfl rfl, cPre.use hw.2.1 hw.1 hw.2.2.1 hE⟩ rfl rfl hl.1 rfl (lv_room (Nat.le_of_ble_eq_true rfl)) dX7_readTest_106 ⟨(Nat.le_of_ble_eq_true rfl), (Nat.le_of_ble_eq_true rfl)⟩) hw hA (fun _ h => h.1) (fun w_2 H locs hp hw => ?_)
        obtain ⟨_, hm⟩ := hp
        have hM := hM.trans hm (by decide) (by decide)
        have f_a0_X7_0 := hm.1 _ _ _ _ f_a0_X7_0 (by decide)
        have f_a0_X7_1 := hm.1 _ _ _ _ f_a0_X7_1 (by decide)
        rw [hQ]
        refine W.widen (k := 0) (n := 0) (Nat.le_refl _) (Nat.le_refl _) ?_
        exact W.vret hx hb hr (fun t ht hW => ⟨⟨w_2, rfl, ⟨hw.2.2.2.2, hM⟩, by rw [ht]; exact hw.2.1, va_K.moved hW.alike hw.1, hw.2.2.1⟩, hw.2.2.2.1.F ht⟩) hw.2.2.2.1.2.2 dX7_readTest_109
    refine lv_icmp_ge (tgt := 96) hx hb dX7_readTest_13 (by decide) (fun c_13 => ?_) (fun c_13 => ?_)
    · simp only [fa_lt, fa_le, fa_eq, li_400] at c_13
      exact J96 _ _ _ w9 hw hM f_a0_X7_0 f_a0_X7_1 (lv_sub hl [0, 1, 2, 3] rfl)
    · simp only [fa_lt, fa_le, fa_eq, li_400] at c_13
      refine lv_aload_n hx hb dX7_readTest_16 rfl (lv_at hl 0 rfl) ?_
      refine t_getk (ci := 7) (C := RX7) (T := TX7) (N := 3) hx hb hts iX7 hown hw rfl 0 (by decide) (hts _ tw_166) (fun _ h9 => h9) dX7_readTest_17 f_a0_X7_0 ?_
      refine va_ldcS hx hb hown hR.2.1 dX7_readTest_20 ?_
      refine t_calli (va_runV (As := [.ref (aK 1)]) (rest := []) ⟨hx, hb, hml, hown, hts⟩ (t_X9_takeWord l dC dI tys κ B w9 hw.2.2.2.2 aK aV f0 k_f0 1 (by decide) H.size) (cwV 1 hts (gUV tw_643 tw_506 tw_507 tw_2 tw_508) rfl rfl rfl (by decide +kernel) ⟨(Nat.le_of_ble_eq_true rfl), (Nat.le_of_ble_eq_true rfl)⟩) ⟨cPreS.blind, t_recv hw (ci := 9) k_f0 rfl rfl, cPreS.use hw.2.1 hw.1 hw.2.2.1 hE hStr hR hw.2.2.2.1 (hw.free hA)⟩ rfl rfl hl.1 rfl (lv_room (Nat.le_of_ble_eq_true rfl)) dX7_readTest_22 ⟨(Nat.le_of_ble_eq_true rfl), (Nat.le_of_ble_eq_true rfl)⟩) hw hA (fun _ _ h => h.1) (fun v22 w_3 H locs hp hw => ?_)
      obtain ⟨_, hm⟩ := hp
      have l_v22 := i32_lo v22
      have h_v22 := i32_hi v22
      have hM := hM.trans hm (by decide) (by decide)
      have f_a0_X7_0 := hm.1 _ _ _ _ f_a0_X7_0 (by decide)
      have f_a0_X7_1 := hm.1 _ _ _ _ f_a0_X7_1 (by decide)
      refine lv_istore (lv' := [(4, .int v22), (0, .ref a0), (1, .int a1), (2, .int p9_l2), (3, .int p9_l3)]) hx hb dX7_readTest_25 hl (by decide) rfl (fun ls hl => ?_)
      refine lv_iload hx hb dX7_readTest_27 (lv_at hl 0 rfl) ?_
      refine lv_iconst (v := (-1)) hx hb dX7_readTest_29 (by decide) ?_
      refine lv_icmp_ne (tgt := 36) hx hb dX7_readTest_30 (by decide) (fun c_30 => ?_) (fun c_30 => ?_)
      · simp only [fa_lt, fa_le, fa_eq, li_m1] at c_30
        refine lv_iload hx hb dX7_readTest_36 (lv_at hl 0 rfl) ?_
        refine lv_iconst (v := 1) hx hb dX7_readTest_38 (by decide) ?_
        have J55 : ∀ (H : Heap) (locs : List Loc) (ls : Array Slot) (w55 : va_W), tW (dC, dI) tys κ B A s w55 H locs → Sm [(6, 1), (7, 2), (9, 2), (9, 3)] [38] κ ws w55 → fld w55 a0 7 0 (.ref f0) → fld w55 a0 7 1 (.ref f1) → lv_has ls 5 [(0, .ref a0), (1, .int a1), (2, .int p9_l2), (3, .int p9_l3), (4, .int v22)] → W p l e (headSpec (ws_u yX7_readTest cX7_readTest 5 none) ({ frames := 15, cells := 0, slots := 0, locals := 353 })).room s m ([.ref a0, .int a1] : List Value).toArray below meth c H locs 0 0 QQ (F0 m 55 ls []) := by
          intro H locs ls w55 hw hM f_a0_X7_0 f_a0_X7_1 hl
          refine lv_iload_n hx hb dX7_readTest_55 rfl (lv_at hl 2 rfl) ?_
          have J70 : ∀ (H : Heap) (locs : List Loc) (ls : Array Slot) (w70 : va_W) (p70_s0 : Int32), tW (dC, dI) tys κ B A s w70 H locs → Sm [(6, 1), (7, 2), (9, 2), (9, 3)] [38] κ ws w70 → 0 ≤ p70_s0.toInt → p70_s0.toInt ≤ 1 → fld w70 a0 7 0 (.ref f0) → fld w70 a0 7 1 (.ref f1) → lv_has ls 5 [(0, .ref a0), (1, .int a1), (2, .int p9_l2), (3, .int p9_l3), (4, .int v22)] → W p l e (headSpec (ws_u yX7_readTest cX7_readTest 5 none) ({ frames := 15, cells := 0, slots := 0, locals := 353 })).room s m ([.ref a0, .int a1] : List Value).toArray below meth c H locs 0 0 QQ (F0 m 70 ls [.int p70_s0]) := by
            intro H locs ls w70 p70_s0 hw hM l_p70_s0 h_p70_s0 f_a0_X7_0 f_a0_X7_1 hl
            refine lv_istore_n (lv' := [(2, .int p70_s0), (0, .ref a0), (1, .int a1), (3, .int p9_l3), (4, .int v22)]) hx hb dX7_readTest_70 rfl hl (by decide) rfl (fun ls hl => ?_)
            refine lv_aload_n hx hb dX7_readTest_71 rfl (lv_at hl 1 rfl) ?_
            refine lv_iload_n hx hb dX7_readTest_72 rfl (lv_at hl 2 rfl) ?_
            refine t_callv (va_runV (As := [.int a1]) (rest := []) ⟨hx, hb, hml, hown, hts⟩ (t_X7_readFact_7 l dC dI tys κ B w70 hw.2.2.2.2 aK aV a0 k_a0 a1 (by omega) (by omega) f0 k_f0 f_a0_X7_0 f1 k_f1 f_a0_X7_1 H.size) (cwV 1 hts (gUV tw_683 tw_685 ts_0_13 tw_5 tw_686) rfl rfl rfl (by decide +kernel) ⟨(Nat.le_of_ble_eq_true rfl), (Nat.le_of_ble_eq_true rfl)⟩) ⟨cPreS.blind, t_recv hw (ci := 7) k_a0 rfl rfl, cPreS.use hw.2.1 hw.1 hw.2.2.1 hE hStr hR hw.2.2.2.1 (hw.free hA)⟩ rfl rfl hl.1 rfl (lv_room (Nat.le_of_ble_eq_true rfl)) dX7_readTest_73 ⟨(Nat.le_of_ble_eq_true rfl), (Nat.le_of_ble_eq_true rfl)⟩) hw hA (fun _ h => h.1) (fun w_4 H locs hp hw => ?_)
            obtain ⟨_, hm⟩ := hp
            have hM := hM.trans hm (by decide) (by decide)
            have f_a0_X7_0 := hm.1 _ _ _ _ f_a0_X7_0 (by decide)
            have f_a0_X7_1 := hm.1 _ _ _ _ f_a0_X7_1 (by decide)
            refine lv_iload hx hb dX7_readTest_76 (lv_at hl 4 rfl) ?_
            have J90 : ∀ (H : Heap) (locs : List Loc) (ls : Array Slot) (w90 : va_W), tW (dC, dI) tys κ B A s w90 H locs → Sm [(6, 1), (7, 2), (9, 2), (9, 3)] [38] κ ws w90 → fld w90 a0 7 0 (.ref f0) → fld w90 a0 7 1 (.ref f1) → lv_has ls 5 [(0, .ref a0), (1, .int a1), (2, .int p70_s0), (3, .int p9_l3), (4, .int v22)] → W p l e (headSpec (ws_u yX7_readTest cX7_readTest 5 none) ({ frames := 15, cells := 0, slots := 0, locals := 353 })).room s m ([.ref a0, .int a1] : List Value).toArray below meth c H locs 0 0 QQ (F0 m 90 ls []) := by
              intro H locs ls w90 hw hM f_a0_X7_0 f_a0_X7_1 hl
              obtain ⟨v90, e_v90⟩ : ∃ y : Int32, y = p9_l3 + 1 := ⟨_, rfl⟩
              refine lv_iinc (v := v90) (lv' := [(3, .int v90), (0, .ref a0), (1, .int a1), (2, .int p70_s0), (4, .int v22)]) hx hb dX7_readTest_90 hl (k := 3) rfl e_v90.symm (by decide) rfl (fun ls hl => ?_)
              have e_v90 : v90.toInt = p9_l3.toInt + 1 := ad_i e_v90 rfl li_1 (by omega) (by omega)
              refine lv_goto (tgt := 9) hx hb dX7_readTest_93 (by decide) ?_
              exact ih_9 _ _ _ _ (by omega) ⟨w90, p70_s0, v90, hw, hM, (by omega), (by omega), (by omega), (by omega), f_a0_X7_0, f_a0_X7_1, (lv_sub hl [1, 2, 3, 0] rfl), rfl⟩
            refine lv_if_ne (tgt := 90) hx hb dX7_readTest_78 (by decide) (fun c_78 => ?_) (fun c_78 => ?_)
            · simp only [fa_lt, fa_le, fa_eq, li_0] at c_78
              exact J90 _ _ _ w_4 hw hM f_a0_X7_0 f_a0_X7_1 (lv_sub hl [1, 2, 0, 3, 4] rfl)
            · simp only [fa_lt, fa_le, fa_eq, li_0] at c_78
              refine lv_aload_n hx hb dX7_readTest_81 rfl (lv_at hl 1 rfl) ?_
              refine t_getk (ci := 7) (C := RX7) (T := TX7) (N := 3) hx hb hts iX7 hown hw rfl 1 (by decide) (hts _ tw_167) (fun _ h9 => h9) dX7_readTest_82 f_a0_X7_1 ?_
              refine lv_bipush (v := (-22)) hx hb dX7_readTest_85 (by decide) ?_
              refine t_callv (va_runV (As := [.int (-22)]) (rest := []) ⟨hx, hb, hml, hown, hts⟩ (t_X6_add l dC dI tys κ B w_4 hw.2.2.2.2 f1 k_f1 (-22) H.size) (cwV 1 hts (gUV tw_660 tw_661 tw_662 tw_6 tw_663) rfl rfl rfl (by decide +kernel) ⟨(Nat.le_of_ble_eq_true rfl), (Nat.le_of_ble_eq_true rfl)⟩) ⟨cPre.blind, t_recv hw (ci := 6) k_f1 rfl rfl, cPre.use hw.2.1 hw.1 hw.2.2.1 hE⟩ rfl rfl hl.1 rfl (lv_room (Nat.le_of_ble_eq_true rfl)) dX7_readTest_87 ⟨(Nat.le_of_ble_eq_true rfl), (Nat.le_of_ble_eq_true rfl)⟩) hw hA (fun _ h => h.1) (fun w_5 H locs hp hw => ?_)
              obtain ⟨_, hm⟩ := hp
              have hM := hM.trans hm (by decide) (by decide)
              have f_a0_X7_0 := hm.1 _ _ _ _ f_a0_X7_0 (by decide)
              have f_a0_X7_1 := hm.1 _ _ _ _ f_a0_X7_1 (by decide)
              exact J90 _ _ _ w_5 hw hM f_a0_X7_0 f_a0_X7_1 (lv_sub hl [1, 2, 0, 3, 4] rfl)
          have J65 : ∀ (H : Heap) (locs : List Loc) (ls : Array Slot) (w65 : va_W), tW (dC, dI) tys κ B A s w65 H locs → Sm [(6, 1), (7, 2), (9, 2), (9, 3)] [38] κ ws w65 → fld w65 a0 7 0 (.ref f0) → fld w65 a0 7 1 (.ref f1) → lv_has ls 5 [(0, .ref a0), (1, .int a1), (2, .int p9_l2), (3, .int p9_l3), (4, .int v22)] → W p l e (headSpec (ws_u yX7_readTest cX7_readTest 5 none) ({ frames := 15, cells := 0, slots := 0, locals := 353 })).room s m ([.ref a0, .int a1] : List Value).toArray below meth c H locs 0 0 QQ (F0 m 65 ls []) := by
            intro H locs ls w65 hw hM f_a0_X7_0 f_a0_X7_1 hl
            refine lv_iconst (v := 1) hx hb dX7_readTest_65 (by decide) ?_
            refine lv_goto (tgt := 70) hx hb dX7_readTest_66 (by decide) ?_
            exact J70 _ _ _ w65 1 hw hM (by decide) (by decide) f_a0_X7_0 f_a0_X7_1 (lv_sub hl [0, 1, 2, 3, 4] rfl)
          refine lv_if_ne (tgt := 65) hx hb dX7_readTest_56 (by decide) (fun c_56 => ?_) (fun c_56 => ?_)
          · simp only [fa_lt, fa_le, fa_eq, li_0] at c_56
            exact J65 _ _ _ w55 hw hM f_a0_X7_0 f_a0_X7_1 (lv_sub hl [0, 1, 2, 3, 4] rfl)
          · simp only [fa_lt, fa_le, fa_eq, li_0] at c_56
            refine lv_iload hx hb dX7_readTest_59 (lv_at hl 4 rfl) ?_
            refine lv_iconst (v := 1) hx hb dX7_readTest_61 (by decide) ?_
            refine lv_icmp_ne (tgt := 69) hx hb dX7_readTest_62 (by decide) (fun c_62 => ?_) (fun c_62 => ?_)
            · simp only [fa_lt, fa_le, fa_eq, li_1] at c_62
              refine lv_iconst (v := 0) hx hb dX7_readTest_69 (by decide) ?_
              exact J70 _ _ _ w55 0 hw hM (by decide) (by decide) f_a0_X7_0 f_a0_X7_1 (lv_sub hl [0, 1, 2, 3, 4] rfl)
            · simp only [fa_lt, fa_le, fa_eq, li_1] at c_62
              exact J65 _ _ _ w55 hw hM f_a0_X7_0 f_a0_X7_1 (lv_sub hl [0, 1, 2, 3, 4] rfl)
        refine lv_icmp_ne (tgt := 55) hx hb dX7_readTest_39 (by decide) (fun c_39 => ?_) (fun c_39 => ?_)
        · simp only [fa_lt, fa_le, fa_eq, li_1] at c_39
          exact J55 _ _ _ w_3 hw hM f_a0_X7_0 f_a0_X7_1 (lv_sub hl [1, 2, 3, 4, 0] rfl)
        · simp only [fa_lt, fa_le, fa_eq, li_1] at c_39
          refine lv_iload_n hx hb dX7_readTest_42 rfl (lv_at hl 3 rfl) ?_
          refine lv_if_eq (tgt := 55) hx hb dX7_readTest_43 (by decide) (fun c_43 => ?_) (fun c_43 => ?_)
          · simp only [fa_lt, fa_le, fa_eq, li_0] at c_43
            exact J55 _ _ _ w_3 hw hM f_a0_X7_0 f_a0_X7_1 (lv_sub hl [1, 2, 3, 4, 0] rfl)
          · simp only [fa_lt, fa_le, fa_eq, li_0] at c_43
            refine lv_aload_n hx hb dX7_readTest_46 rfl (lv_at hl 1 rfl) ?_
            refine t_getk (ci := 7) (C := RX7) (T := TX7) (N := 3) hx hb hts iX7 hown hw rfl 1 (by decide) (hts _ tw_167) (fun _ h9 => h9) dX7_readTest_47 f_a0_X7_1 ?_
            refine lv_bipush (v := (-23)) hx hb dX7_readTest_50 (by decide) ?_
            refine t_callv (va_runV (As := [.int (-23)]) (rest := []) ⟨hx, hb, hml, hown, hts⟩ (t_X6_add l dC dI tys κ B w_3 hw.2.2.2.2 f1 k_f1 (-23) H.size) (cwV 1 hts (gUV tw_660 tw_661 tw_662 tw_6 tw_663) rfl rfl rfl (by decide +kernel) ⟨(Nat.le_of_ble_eq_true rfl), (Nat.le_of_ble_eq_true rfl)⟩) ⟨cPre.blind, t_recv hw (ci := 6) k_f1 rfl rfl, cPre.use hw.2.1 hw.1 hw.2.2.1 hE⟩ rfl rfl hl.1 rfl (lv_room (Nat.le_of_ble_eq_true rfl)) dX7_readTest_52 ⟨(Nat.le_of_ble_eq_true rfl), (Nat.le_of_ble_eq_true rfl)⟩) hw hA (fun _ h => h.1) (fun w_6 H locs hp hw => ?_)
            obtain ⟨_, hm⟩ := hp
            have hM := hM.trans hm (by decide) (by decide)
            have f_a0_X7_0 := hm.1 _ _ _ _ f_a0_X7_0 (by decide)
            have f_a0_X7_1 := hm.1 _ _ _ _ f_a0_X7_1 (by decide)
            exact J55 _ _ _ w_6 hw hM f_a0_X7_0 f_a0_X7_1 (lv_sub hl [1, 2, 3, 4, 0] rfl)
      · simp only [fa_lt, fa_le, fa_eq, li_m1] at c_30
        refine lv_goto (tgt := 96) hx hb dX7_readTest_33 (by decide) ?_
        exact J96 _ _ _ w_3 hw hM f_a0_X7_0 f_a0_X7_1 (lv_sub hl [1, 2, 3, 4] rfl)
  exact J9 _ _ _ _ ⟨w_1, 0, 0, hw, hM, (by decide), (by decide), (by decide), (by decide), f_a0_X7_0, f_a0_X7_1, (lv_sub hl [2, 3, 1, 0] rfl), rfl⟩
set_option maxHeartbeats 4000000 in
set_option maxRecDepth 100000 in
theorem t_X7_readFact_6 (l : Launch) (dC : Nat → ClassId) (dI : Nat → Nat → Nat) (tys : List (ClassId × FieldType)) (κ : tK) (B : Nat) (ws : va_W) (hT : Ty κ tys B ws) (aK aV : Nat → Nat) (a0 : Nat) (k_a0 : κ a0 = some 7) (a1 : Int32) (l_a1 : 6 ≤ a1.toInt) (h_a1 : a1.toInt ≤ 6) (f0 : Nat) (k_f0 : κ f0 = some 9) (f_a0_X7_0 : fld ws a0 7 0 (.ref f0)) (f1 : Nat) (k_f1 : κ f1 = some 6) (f_a0_X7_1 : fld ws a0 7 1 (.ref f1)) (sz : Nat) : Met l yX7_readFact (ws_u yX7_readFact cX7_readFact 6 none) ({ frames := 16, cells := 0, slots := 0, locals := 377 }) (va_Pc [.ref a0, .int a1] (cPreS (dC, dI) aK aV tys ws sz)) (va_Qv (fun (w : va_W) => Ty κ tys B w ∧ Sm [(6, 1), (7, 2), (9, 2), (9, 3)] [38] κ ws w) (fun w t => cPost (dC, dI) tys w (va_A ws sz) t) (va_A ws sz)) 0 0 (va_A ws sz) := by
  refine Met.ofW (cc := cX7_readFact) (maxL := 6) (ret := none) (by decide) rfl ?_
  intro p e s m args below meth c s₁ B0 hml hv
  obtain ⟨rfl, ⟨hsz, hP, hK, hD0, hE⟩, hStr, hR⟩ := hv
  have hx := B0.exec
  have hb := B0.bytes
  have hr := B0.returns
  have hts0 := atoms_spec (ws := ws_u yX7_readFact cX7_readFact 6 none) B0.pre
  have hts : ∀ w ∈ gT, w.before _ s = true := fun w h => hts0 w (List.mem_cons_of_mem _ h)
  have hown : s.vm.findClass RX7 = some m.cls := findClass_of_methodNamed B0.named
  have hlocks := B0.notSynchronized
  subst hsz
  have hD := hD0.self (sz := s.heap.size)
  generalize hAe : va_A ws s.heap.size = A at hD hStr ⊢
  have hA : ∀ q : Nat, s.heap.size ≤ q → A q := fun q h => by rw [← hAe]; exact Or.inr h
  have hw : tW (dC, dI) tys κ B A s ws s.heap [] := ⟨hK, hP, hD, va_S.rf, hT⟩
  have hM : Sm [(6, 1), (7, 2), (9, 2), (9, 3)] [38] κ ws ws := Sm.rf
  clear hP hK hD hD0 hts0
  have hl := lv_entry ([.ref a0, .int a1]) (n := 6) (Nat.le_of_ble_eq_true rfl)
  rw [lg_entry_eq]
  generalize (lg_sl ([.ref a0, .int a1]) ++ List.replicate (6 - (lg_sl ([.ref a0, .int a1])).length) Slot.unset).toArray = ls at hl ⊢
  have hl : lv_has ls 6 [(0, .ref a0), (1, .int a1)] := hl
  refine t_start (fun QQ hQ => ?_)
  refine lv_aload_n hx hb dX7_readFact_0 rfl (lv_at hl 0 rfl) ?_
  refine t_getk (ci := 7) (C := RX7) (T := TX7) (N := 3) hx hb hts iX7 hown hw rfl 0 (by decide) (hts _ tw_166) (fun _ h9 => h9) dX7_readFact_1 f_a0_X7_0 ?_
  refine t_geti (ci := 9) (C := RX9) (T := TX9) (N := 4) hx hb hts iX9 hown hw k_f0 rfl rfl rfl 2 (by decide) (hts _ tw_39) (fun _ h9 => h9) dX7_readFact_4 rfl (fun v4 l_v4 h_v4 f_f0_X9_2 => ?_)
  have l_v4 : 0 ≤ v4.toInt := l_v4
  have h_v4 : v4.toInt ≤ 400 := h_v4
  refine lv_istore_n (lv' := [(2, .int v4), (0, .ref a0), (1, .int a1)]) hx hb dX7_readFact_7 rfl hl (by decide) rfl (fun ls hl => ?_)
  refine lv_aload_n hx hb dX7_readFact_8 rfl (lv_at hl 1 rfl) ?_
  refine t_getk (ci := 7) (C := RX7) (T := TX7) (N := 3) hx hb hts iX7 hown hw rfl 0 (by decide) (hts _ tw_166) (fun _ h9 => h9) dX7_readFact_9 f_a0_X7_0 ?_
  refine va_ldcS hx hb hown hR.2.2.2.1 dX7_readFact_12 ?_
  refine t_calli (va_runV (As := [.ref (aK 3)]) (rest := []) ⟨hx, hb, hml, hown, hts⟩ (t_X9_takeWord l dC dI tys κ B ws hw.2.2.2.2 aK aV f0 k_f0 3 (by decide) s.heap.size) (cwV 1 hts (gUV tw_643 tw_506 tw_507 tw_2 tw_508) rfl rfl rfl (by decide +kernel) ⟨(Nat.le_of_ble_eq_true rfl), (Nat.le_of_ble_eq_true rfl)⟩) ⟨cPreS.blind, t_recv hw (ci := 9) k_f0 rfl rfl, cPreS.use hw.2.1 hw.1 hw.2.2.1 hE hStr hR hw.2.2.2.1 (hw.free hA)⟩ rfl rfl hl.1 rfl (lv_room (Nat.le_of_ble_eq_true rfl)) dX7_readFact_14 ⟨(Nat.le_of_ble_eq_true rfl), (Nat.le_of_ble_eq_true rfl)⟩) hw hA (fun _ _ h => h.1) (fun v14 w_1 H locs hp hw => ?_)
  obtain ⟨_, hm⟩ := hp
  have l_v14 := i32_lo v14
  have h_v14 := i32_hi v14
  have hM := hM.trans hm (by decide) (by decide)
  have f_a0_X7_0 := hm.1 _ _ _ _ f_a0_X7_0 (by decide)
  have f_a0_X7_1 := hm.1 _ _ _ _ f_a0_X7_1 (by decide)
  refine lv_iconst (v := (-1)) hx hb dX7_readFact_17 (by decide) ?_
  refine lv_icmp_eq (tgt := 25) hx hb dX7_readFact_18 (by decide) (fun c_18 => ?_) (fun c_18 => ?_)
  · simp only [fa_lt, fa_le, fa_eq, li_m1] at c_18
    refine lv_iconst (v := 0) hx hb dX7_readFact_25 (by decide) ?_
    refine lv_istore_n (lv' := [(3, .int 0), (2, .int v4), (0, .ref a0), (1, .int a1)]) hx hb dX7_readFact_26 rfl hl (by decide) rfl (fun ls hl => ?_)
    refine lv_iload_n hx hb dX7_readFact_27 rfl (lv_at hl 0 rfl) ?_
    refine lv_if_ne (tgt := 47) hx hb dX7_readFact_28 (by decide) (fun c_28 => absurd c_28 (by decide)) (fun _ => ?_)
    refine lv_aload_n hx hb dX7_readFact_31 rfl (lv_at hl 2 rfl) ?_
    refine t_getk (ci := 7) (C := RX7) (T := TX7) (N := 3) hx hb hts iX7 hown hw rfl 0 (by decide) (hts _ tw_166) (fun _ h9 => h9) dX7_readFact_32 f_a0_X7_0 ?_
    refine lv_bipush (v := 91) hx hb dX7_readFact_35 (by decide) ?_
    refine t_calli (va_runV (As := [.int 91]) (rest := []) ⟨hx, hb, hml, hown, hts⟩ (t_X9_takeSign l dC dI tys κ B w_1 hw.2.2.2.2 f0 k_f0 91 (by decide) (by decide) H.size) (cwV 1 hts (gUV tw_673 tw_603 tw_604 tw_2 tw_605) rfl rfl rfl (by decide +kernel) ⟨(Nat.le_of_ble_eq_true rfl), (Nat.le_of_ble_eq_true rfl)⟩) ⟨cPre.blind, t_recv hw (ci := 9) k_f0 rfl rfl, cPre.use hw.2.1 hw.1 hw.2.2.1 hE⟩ rfl rfl hl.1 rfl (lv_room (Nat.le_of_ble_eq_true rfl)) dX7_readFact_37 ⟨(Nat.le_of_ble_eq_true rfl), (Nat.le_of_ble_eq_true rfl)⟩) hw hA (fun _ _ h => h.2.2.1) (fun v37 w_2 H locs hp hw => ?_)
    obtain ⟨l_v37, h_v37, _, hm⟩ := hp
    have hM := hM.trans hm (by decide) (by decide)
    have f_a0_X7_0 := hm.1 _ _ _ _ f_a0_X7_0 (by decide)
    have f_a0_X7_1 := hm.1 _ _ _ _ f_a0_X7_1 (by decide)
    refine lv_if_eq (tgt := 47) hx hb dX7_readFact_40 (by decide) (fun c_40 => ?_) (fun c_40 => ?_)
    · simp only [fa_lt, fa_le, fa_eq, li_0] at c_40
      refine lv_iconst (v := 0) hx hb dX7_readFact_47 (by decide) ?_
      refine lv_istore (lv' := [(4, .int 0), (3, .int 0), (2, .int v4), (0, .ref a0), (1, .int a1)]) hx hb dX7_readFact_48 hl (by decide) rfl (fun ls hl => ?_)
      refine lv_iload_n hx hb dX7_readFact_50 rfl (lv_at hl 1 rfl) ?_
      refine lv_if_ne (tgt := 59) hx hb dX7_readFact_51 (by decide) (fun c_51 => absurd c_51 (by decide)) (fun _ => ?_)
      refine lv_iload hx hb dX7_readFact_54 (lv_at hl 0 rfl) ?_
      refine lv_if_eq (tgt := 77) hx hb dX7_readFact_56 (by decide) (fun _ => ?_) (fun c_56 => absurd c_56 (by decide))
      refine lv_iload_n hx hb dX7_readFact_77 rfl (lv_at hl 1 rfl) ?_
      refine lv_if_eq (tgt := 100) hx hb dX7_readFact_78 (by decide) (fun _ => ?_) (fun c_78 => absurd c_78 (by decide))
      refine lv_iload hx hb dX7_readFact_100 (lv_at hl 0 rfl) ?_
      refine lv_if_eq (tgt := 142) hx hb dX7_readFact_102 (by decide) (fun _ => ?_) (fun c_102 => absurd c_102 (by decide))
      refine lv_aload_n hx hb dX7_readFact_142 rfl (lv_at hl 3 rfl) ?_
      refine t_callv (va_runV (As := []) (rest := []) ⟨hx, hb, hml, hown, hts⟩ (t_X7_readSum l dC dI tys κ B w_2 hw.2.2.2.2 aK aV a0 k_a0 f0 k_f0 f_a0_X7_0 f1 k_f1 f_a0_X7_1 H.size) (cwV 0 hts (gUV tw_649 tw_651 ts_0_8 tw_5 tw_652) rfl rfl rfl (by decide +kernel) ⟨(Nat.le_of_ble_eq_true rfl), (Nat.le_of_ble_eq_true rfl)⟩) ⟨cPreS.blind, t_recv hw (ci := 7) k_a0 rfl rfl, cPreS.use hw.2.1 hw.1 hw.2.2.1 hE hStr hR hw.2.2.2.1 (hw.free hA)⟩ rfl rfl hl.1 rfl (lv_room (Nat.le_of_ble_eq_true rfl)) dX7_readFact_143 ⟨(Nat.le_of_ble_eq_true rfl), (Nat.le_of_ble_eq_true rfl)⟩) hw hA (fun _ h => h.1) (fun w_3 H locs hp hw => ?_)
      obtain ⟨_, hm⟩ := hp
      have hM := hM.trans hm (by decide) (by decide)
      have f_a0_X7_0 := hm.1 _ _ _ _ f_a0_X7_0 (by decide)
      have f_a0_X7_1 := hm.1 _ _ _ _ f_a0_X7_1 (by decide)
      refine lv_aload_n hx hb dX7_readFact_146 rfl (lv_at hl 3 rfl) ?_
      refine t_calli (va_runV (As := []) (rest := []) ⟨hx, hb, hml, hown, hts⟩ (t_X7_readSign l dC dI tys κ B w_3 hw.2.2.2.2 a0 k_a0 f0 k_f0 f_a0_X7_0 H.size) (cwV 0 hts (gUV tw_688 tw_690 ts_0_14 tw_5 tw_691) rfl rfl rfl (by decide +kernel) ⟨(Nat.le_of_ble_eq_true rfl), (Nat.le_of_ble_eq_true rfl)⟩) ⟨cPre.blind, t_recv hw (ci := 7) k_a0 rfl rfl, cPre.use hw.2.1 hw.1 hw.2.2.1 hE⟩ rfl rfl hl.1 rfl (lv_room (Nat.le_of_ble_eq_true rfl)) dX7_readFact_147 ⟨(Nat.le_of_ble_eq_true rfl), (Nat.le_of_ble_eq_true rfl)⟩) hw hA (fun _ _ h => h.2.2.1) (fun v147 w_4 H locs hp hw => ?_)
      obtain ⟨l_v147, h_v147, _, hm⟩ := hp
      have hM := hM.trans hm (by decide) (by decide)
      have f_a0_X7_0 := hm.1 _ _ _ _ f_a0_X7_0 (by decide)
      have f_a0_X7_1 := hm.1 _ _ _ _ f_a0_X7_1 (by decide)
      refine lv_istore (lv' := [(5, .int v147), (4, .int 0), (3, .int 0), (2, .int v4), (0, .ref a0), (1, .int a1)]) hx hb dX7_readFact_150 hl (by decide) rfl (fun ls hl => ?_)
      refine lv_aload_n hx hb dX7_readFact_152 rfl (lv_at hl 4 rfl) ?_
      refine t_callv (va_runV (As := []) (rest := []) ⟨hx, hb, hml, hown, hts⟩ (t_X7_readSum l dC dI tys κ B w_4 hw.2.2.2.2 aK aV a0 k_a0 f0 k_f0 f_a0_X7_0 f1 k_f1 f_a0_X7_1 H.size) (cwV 0 hts (gUV tw_649 tw_651 ts_0_8 tw_5 tw_652) rfl rfl rfl (by decide +kernel) ⟨(Nat.le_of_ble_eq_true rfl), (Nat.le_of_ble_eq_true rfl)⟩) ⟨cPreS.blind, t_recv hw (ci := 7) k_a0 rfl rfl, cPreS.use hw.2.1 hw.1 hw.2.2.1 hE hStr hR hw.2.2.2.1 (hw.free hA)⟩ rfl rfl hl.1 rfl (lv_room (Nat.le_of_ble_eq_true rfl)) dX7_readFact_153 ⟨(Nat.le_of_ble_eq_true rfl), (Nat.le_of_ble_eq_true rfl)⟩) hw hA (fun _ h => h.1) (fun w_5 H locs hp hw => ?_)
      obtain ⟨_, hm⟩ := hp
      have hM := hM.trans hm (by decide) (by decide)
      have f_a0_X7_0 := hm.1 _ _ _ _ f_a0_X7_0 (by decide)
      have f_a0_X7_1 := hm.1 _ _ _ _ f_a0_X7_1 (by decide)
      refine lv_aload_n hx hb dX7_readFact_156 rfl (lv_at hl 4 rfl) ?_
      refine t_getk (ci := 7) (C := RX7) (T := TX7) (N := 3) hx hb hts iX7 hown hw rfl 1 (by decide) (hts _ tw_167) (fun _ h9 => h9) dX7_readFact_157 f_a0_X7_1 ?_
      refine lv_iload hx hb dX7_readFact_160 (lv_at hl 0 rfl) ?_
      refine t_callv (va_runV (As := [.int v147]) (rest := []) ⟨hx, hb, hml, hown, hts⟩ (t_X6_add l dC dI tys κ B w_5 hw.2.2.2.2 f1 k_f1 v147 H.size) (cwV 1 hts (gUV tw_660 tw_661 tw_662 tw_6 tw_663) rfl rfl rfl (by decide +kernel) ⟨(Nat.le_of_ble_eq_true rfl), (Nat.le_of_ble_eq_true rfl)⟩) ⟨cPre.blind, t_recv hw (ci := 6) k_f1 rfl rfl, cPre.use hw.2.1 hw.1 hw.2.2.1 hE⟩ rfl rfl hl.1 rfl (lv_room (Nat.le_of_ble_eq_true rfl)) dX7_readFact_162 ⟨(Nat.le_of_ble_eq_true rfl), (Nat.le_of_ble_eq_true rfl)⟩) hw hA (fun _ h => h.1) (fun w_6 H locs hp hw => ?_)
      obtain ⟨_, hm⟩ := hp
      have hM := hM.trans hm (by decide) (by decide)
      have f_a0_X7_0 := hm.1 _ _ _ _ f_a0_X7_0 (by decide)
      have f_a0_X7_1 := hm.1 _ _ _ _ f_a0_X7_1 (by decide)
      rw [hQ]
      refine W.widen (k := 0) (n := 0) (Nat.le_refl _) (Nat.le_refl _) ?_
      exact W.vret hx hb hr (fun t ht hW => ⟨⟨w_6, rfl, ⟨hw.2.2.2.2, hM⟩, by rw [ht]; exact hw.2.1, va_K.moved hW.alike hw.1, hw.2.2.1⟩, hw.2.2.2.1.F ht⟩) hw.2.2.2.1.2.2 dX7_readFact_165
    · simp only [fa_lt, fa_le, fa_eq, li_0] at c_40
      refine lv_iconst (v := 1) hx hb dX7_readFact_43 (by decide) ?_
      refine lv_goto (tgt := 48) hx hb dX7_readFact_44 (by decide) ?_
      refine lv_istore (lv' := [(4, .int 1), (3, .int 0), (2, .int v4), (0, .ref a0), (1, .int a1)]) hx hb dX7_readFact_48 hl (by decide) rfl (fun ls hl => ?_)
      refine lv_iload_n hx hb dX7_readFact_50 rfl (lv_at hl 1 rfl) ?_
      refine lv_if_ne (tgt := 59) hx hb dX7_readFact_51 (by decide) (fun c_51 => absurd c_51 (by decide)) (fun _ => ?_)
      refine lv_iload hx hb dX7_readFact_54 (lv_at hl 0 rfl) ?_
      refine lv_if_eq (tgt := 77) hx hb dX7_readFact_56 (by decide) (fun c_56 => absurd c_56 (by decide)) (fun _ => ?_)
      refine lv_iload_n hx hb dX7_readFact_59 rfl (lv_at hl 4 rfl) ?_
      refine lv_bipush (v := 10) hx hb dX7_readFact_60 (by decide) ?_
      refine lv_icmp_lt (tgt := 77) hx hb dX7_readFact_62 (by decide) (fun c_62 => ?_) (fun c_62 => by exfalso; simp only [fa_lt, fa_le, fa_eq, li_10] at c_62; omega)
      simp only [fa_lt, fa_le, fa_eq, li_10] at c_62
      refine lv_iload_n hx hb dX7_readFact_77 rfl (lv_at hl 1 rfl) ?_
      refine lv_if_eq (tgt := 100) hx hb dX7_readFact_78 (by decide) (fun _ => ?_) (fun c_78 => absurd c_78 (by decide))
      refine lv_iload hx hb dX7_readFact_100 (lv_at hl 0 rfl) ?_
      refine lv_if_eq (tgt := 142) hx hb dX7_readFact_102 (by decide) (fun c_102 => absurd c_102 (by decide)) (fun _ => ?_)
      refine lv_aload_n hx hb dX7_readFact_105 rfl (lv_at hl 3 rfl) ?_
      refine lv_iload_n hx hb dX7_readFact_106 rfl (lv_at hl 4 rfl) ?_
      refine lv_iconst (v := 1) hx hb dX7_readFact_107 (by decide) ?_
      refine lv_iadd hx hb dX7_readFact_108 ?_
      refine lv_topi (fun v108 e_v108 => ?_)
      have e_v108 : v108.toInt = a1.toInt + 1 := ad_i e_v108 rfl li_1 (by omega) (by omega)
      refine t_callv (va_runV (As := [.int v108]) (rest := []) ⟨hx, hb, hml, hown, hts⟩ (t_X7_readTest_7 l dC dI tys κ B w_2 hw.2.2.2.2 aK aV a0 k_a0 v108 (by omega) (by omega) f0 k_f0 f_a0_X7_0 f1 k_f1 f_a0_X7_1 H.size) (cwV 1 hts (gUV tw_679 tw_681 ts_0_12 tw_5 tw_682) rfl rfl rfl (by decide +kernel) ⟨(Nat.le_of_ble_eq_true rfl), (Nat.le_of_ble_eq_true rfl)⟩) ⟨cPreS.blind, t_recv hw (ci := 7) k_a0 rfl rfl, cPreS.use hw.2.1 hw.1 hw.2.2.1 hE hStr hR hw.2.2.2.1 (hw.free hA)⟩ rfl rfl hl.1 rfl (lv_room (Nat.le_of_ble_eq_true rfl)) dX7_readFact_109 ⟨(Nat.le_of_ble_eq_true rfl), (Nat.le_of_ble_eq_true rfl)⟩) hw hA (fun _ h => h.1) (fun w_7 H locs hp hw => ?_)
      obtain ⟨_, hm⟩ := hp
      have hM := hM.trans hm (by decide) (by decide)
      have f_a0_X7_0 := hm.1 _ _ _ _ f_a0_X7_0 (by decide)
      have f_a0_X7_1 := hm.1 _ _ _ _ f_a0_X7_1 (by decide)
      refine lv_aload_n hx hb dX7_readFact_112 rfl (lv_at hl 3 rfl) ?_
      refine t_getk (ci := 7) (C := RX7) (T := TX7) (N := 3) hx hb hts iX7 hown hw rfl 0 (by decide) (hts _ tw_166) (fun _ h9 => h9) dX7_readFact_113 f_a0_X7_0 ?_
      refine lv_bipush (v := 93) hx hb dX7_readFact_116 (by decide) ?_
      refine t_calli (va_runV (As := [.int 93]) (rest := []) ⟨hx, hb, hml, hown, hts⟩ (t_X9_takeSign l dC dI tys κ B w_7 hw.2.2.2.2 f0 k_f0 93 (by decide) (by decide) H.size) (cwV 1 hts (gUV tw_673 tw_603 tw_604 tw_2 tw_605) rfl rfl rfl (by decide +kernel) ⟨(Nat.le_of_ble_eq_true rfl), (Nat.le_of_ble_eq_true rfl)⟩) ⟨cPre.blind, t_recv hw (ci := 9) k_f0 rfl rfl, cPre.use hw.2.1 hw.1 hw.2.2.1 hE⟩ rfl rfl hl.1 rfl (lv_room (Nat.le_of_ble_eq_true rfl)) dX7_readFact_118 ⟨(Nat.le_of_ble_eq_true rfl), (Nat.le_of_ble_eq_true rfl)⟩) hw hA (fun _ _ h => h.2.2.1) (fun v118 w_8 H locs hp hw => ?_)
      obtain ⟨l_v118, h_v118, _, hm⟩ := hp
      have hM := hM.trans hm (by decide) (by decide)
      have f_a0_X7_0 := hm.1 _ _ _ _ f_a0_X7_0 (by decide)
      have f_a0_X7_1 := hm.1 _ _ _ _ f_a0_X7_1 (by decide)
      refine lv_if_ne (tgt := 165) hx hb dX7_readFact_121 (by decide) (fun c_121 => ?_) (fun c_121 => ?_)
      · simp only [fa_lt, fa_le, fa_eq, li_0] at c_121
        rw [hQ]
        refine W.widen (k := 0) (n := 0) (Nat.le_refl _) (Nat.le_refl _) ?_
        exact W.vret hx hb hr (fun t ht hW => ⟨⟨w_8, rfl, ⟨hw.2.2.2.2, hM⟩, by rw [ht]; exact hw.2.1, va_K.moved hW.alike hw.1, hw.2.2.1⟩, hw.2.2.2.1.F ht⟩) hw.2.2.2.1.2.2 dX7_readFact_165
      · simp only [fa_lt, fa_le, fa_eq, li_0] at c_121
        refine lv_aload_n hx hb dX7_readFact_124 rfl (lv_at hl 3 rfl) ?_
        refine t_getk (ci := 7) (C := RX7) (T := TX7) (N := 3) hx hb hts iX7 hown hw rfl 0 (by decide) (hts _ tw_166) (fun _ h9 => h9) dX7_readFact_125 f_a0_X7_0 ?_
        refine lv_aload_n hx hb dX7_readFact_128 rfl (lv_at hl 3 rfl) ?_
        refine t_getk (ci := 7) (C := RX7) (T := TX7) (N := 3) hx hb hts iX7 hown hw rfl 0 (by decide) (hts _ tw_166) (fun _ h9 => h9) dX7_readFact_129 f_a0_X7_0 ?_
        refine t_geti (ci := 9) (C := RX9) (T := TX9) (N := 4) hx hb hts iX9 hown hw k_f0 rfl rfl rfl 2 (by decide) (hts _ tw_39) (fun _ h9 => h9) dX7_readFact_132 rfl (fun v132 l_v132 h_v132 f_f0_X9_2 => ?_)
        have l_v132 : 0 ≤ v132.toInt := l_v132
        have h_v132 : v132.toInt ≤ 400 := h_v132
        refine lv_iconst (v := 0) hx hb dX7_readFact_135 (by decide) ?_
        refine t_callv (va_runV (As := [.int v132, .int 0]) (rest := []) ⟨hx, hb, hml, hown, hts⟩ (t_X9_fail l dC dI tys κ B w_8 hw.2.2.2.2 f0 k_f0 v132 (by omega) (by omega) 0 (by decide) (by decide) H.size) (cwV 2 hts (gUV tw_644 tw_562 tw_563 tw_2 tw_564) rfl rfl rfl (by decide +kernel) ⟨(Nat.le_of_ble_eq_true rfl), (Nat.le_of_ble_eq_true rfl)⟩) ⟨cPre.blind, t_recv hw (ci := 9) k_f0 rfl rfl, cPre.use hw.2.1 hw.1 hw.2.2.1 hE⟩ rfl rfl hl.1 rfl (lv_room (Nat.le_of_ble_eq_true rfl)) dX7_readFact_136 ⟨(Nat.le_of_ble_eq_true rfl), (Nat.le_of_ble_eq_true rfl)⟩) hw hA (fun _ h => h.1) (fun w_9 H locs hp hw => ?_)
        obtain ⟨_, hm, ⟨v136f, l_v136f, h_v136f, f_f0_X9_3⟩⟩ := hp
        have zc_0 := li_0
        have hM := hM.trans hm (by decide) (by decide)
        have f_a0_X7_0 := hm.1 _ _ _ _ f_a0_X7_0 (by decide)
        have f_a0_X7_1 := hm.1 _ _ _ _ f_a0_X7_1 (by decide)
        have f_f0_X9_2 := hm.1 _ _ _ _ f_f0_X9_2 (by decide)
        refine lv_goto (tgt := 165) hx hb dX7_readFact_139 (by decide) ?_
        rw [hQ]
        refine W.widen (k := 0) (n := 0) (Nat.le_refl _) (Nat.le_refl _) ?_
        exact W.vret hx hb hr (fun t ht hW => ⟨⟨w_9, rfl, ⟨hw.2.2.2.2, hM⟩, by rw [ht]; exact hw.2.1, va_K.moved hW.alike hw.1, hw.2.2.1⟩, hw.2.2.2.1.F ht⟩) hw.2.2.2.1.2.2 dX7_readFact_165
  · simp only [fa_lt, fa_le, fa_eq, li_m1] at c_18
    refine lv_iconst (v := 1) hx hb dX7_readFact_21 (by decide) ?_
    refine lv_goto (tgt := 26) hx hb dX7_readFact_22 (by decide) ?_
    refine lv_istore_n (lv' := [(3, .int 1), (2, .int v4), (0, .ref a0), (1, .int a1)]) hx hb dX7_readFact_26 rfl hl (by decide) rfl (fun ls hl => ?_)
    refine lv_iload_n hx hb dX7_readFact_27 rfl (lv_at hl 0 rfl) ?_
    refine lv_if_ne (tgt := 47) hx hb dX7_readFact_28 (by decide) (fun _ => ?_) (fun c_28 => absurd c_28 (by decide))
    refine lv_iconst (v := 0) hx hb dX7_readFact_47 (by decide) ?_
    refine lv_istore (lv' := [(4, .int 0), (3, .int 1), (2, .int v4), (0, .ref a0), (1, .int a1)]) hx hb dX7_readFact_48 hl (by decide) rfl (fun ls hl => ?_)
    refine lv_iload_n hx hb dX7_readFact_50 rfl (lv_at hl 1 rfl) ?_
    refine lv_if_ne (tgt := 59) hx hb dX7_readFact_51 (by decide) (fun _ => ?_) (fun c_51 => absurd c_51 (by decide))
    refine lv_iload_n hx hb dX7_readFact_59 rfl (lv_at hl 4 rfl) ?_
    refine lv_bipush (v := 10) hx hb dX7_readFact_60 (by decide) ?_
    refine lv_icmp_lt (tgt := 77) hx hb dX7_readFact_62 (by decide) (fun c_62 => ?_) (fun c_62 => by exfalso; simp only [fa_lt, fa_le, fa_eq, li_10] at c_62; omega)
    simp only [fa_lt, fa_le, fa_eq, li_10] at c_62
    refine lv_iload_n hx hb dX7_readFact_77 rfl (lv_at hl 1 rfl) ?_
    refine lv_if_eq (tgt := 100) hx hb dX7_readFact_78 (by decide) (fun c_78 => absurd c_78 (by decide)) (fun _ => ?_)
    refine lv_aload_n hx hb dX7_readFact_81 rfl (lv_at hl 3 rfl) ?_
    refine lv_iload_n hx hb dX7_readFact_82 rfl (lv_at hl 4 rfl) ?_
    refine lv_iconst (v := 1) hx hb dX7_readFact_83 (by decide) ?_
    refine lv_iadd hx hb dX7_readFact_84 ?_
    refine lv_topi (fun v84 e_v84 => ?_)
    have e_v84 : v84.toInt = a1.toInt + 1 := ad_i e_v84 rfl li_1 (by omega) (by omega)
    refine t_callv (va_runV (As := [.int v84]) (rest := []) ⟨hx, hb, hml, hown, hts⟩ (t_X7_readFact_7 l dC dI tys κ B w_1 hw.2.2.2.2 aK aV a0 k_a0 v84 (by omega) (by omega) f0 k_f0 f_a0_X7_0 f1 k_f1 f_a0_X7_1 H.size) (cwV 1 hts (gUV tw_683 tw_685 ts_0_13 tw_5 tw_686) rfl rfl rfl (by decide +kernel) ⟨(Nat.le_of_ble_eq_true rfl), (Nat.le_of_ble_eq_true rfl)⟩) ⟨cPreS.blind, t_recv hw (ci := 7) k_a0 rfl rfl, cPreS.use hw.2.1 hw.1 hw.2.2.1 hE hStr hR hw.2.2.2.1 (hw.free hA)⟩ rfl rfl hl.1 rfl (lv_room (Nat.le_of_ble_eq_true rfl)) dX7_readFact_85 ⟨(Nat.le_of_ble_eq_true rfl), (Nat.le_of_ble_eq_true rfl)⟩) hw hA (fun _ h => h.1) (fun w_10 H locs hp hw => ?_)
    obtain ⟨_, hm⟩ := hp
    have hM := hM.trans hm (by decide) (by decide)
    have f_a0_X7_0 := hm.1 _ _ _ _ f_a0_X7_0 (by decide)
    have f_a0_X7_1 := hm.1 _ _ _ _ f_a0_X7_1 (by decide)
    refine lv_aload_n hx hb dX7_readFact_88 rfl (lv_at hl 3 rfl) ?_
    refine t_getk (ci := 7) (C := RX7) (T := TX7) (N := 3) hx hb hts iX7 hown hw rfl 1 (by decide) (hts _ tw_167) (fun _ h9 => h9) dX7_readFact_89 f_a0_X7_1 ?_
    refine lv_bipush (v := (-24)) hx hb dX7_readFact_92 (by decide) ?_
    refine t_callv (va_runV (As := [.int (-24)]) (rest := []) ⟨hx, hb, hml, hown, hts⟩ (t_X6_add l dC dI tys κ B w_10 hw.2.2.2.2 f1 k_f1 (-24) H.size) (cwV 1 hts (gUV tw_660 tw_661 tw_662 tw_6 tw_663) rfl rfl rfl (by decide +kernel) ⟨(Nat.le_of_ble_eq_true rfl), (Nat.le_of_ble_eq_true rfl)⟩) ⟨cPre.blind, t_recv hw (ci := 6) k_f1 rfl rfl, cPre.use hw.2.1 hw.1 hw.2.2.1 hE⟩ rfl rfl hl.1 rfl (lv_room (Nat.le_of_ble_eq_true rfl)) dX7_readFact_94 ⟨(Nat.le_of_ble_eq_true rfl), (Nat.le_of_ble_eq_true rfl)⟩) hw hA (fun _ h => h.1) (fun w_11 H locs hp hw => ?_)
    obtain ⟨_, hm⟩ := hp
    have hM := hM.trans hm (by decide) (by decide)
    have f_a0_X7_0 := hm.1 _ _ _ _ f_a0_X7_0 (by decide)
    have f_a0_X7_1 := hm.1 _ _ _ _ f_a0_X7_1 (by decide)
    refine lv_goto (tgt := 165) hx hb dX7_readFact_97 (by decide) ?_
    rw [hQ]
    refine W.widen (k := 0) (n := 0) (Nat.le_refl _) (Nat.le_refl _) ?_
    exact W.vret hx hb hr (fun t ht hW => ⟨⟨w_11, rfl, ⟨hw.2.2.2.2, hM⟩, by rw [ht]; exact hw.2.1, va_K.moved hW.alike hw.1, hw.2.2.1⟩, hw.2.2.2.1.F ht⟩) hw.2.2.2.1.2.2 dX7_readFact_165
