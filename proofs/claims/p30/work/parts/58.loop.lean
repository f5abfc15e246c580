theorem dL_law_18 : decode cL_law 18 = .ok (.iload_n 3, 1) := by decide +kernel
theorem dL_law_19 : decode cL_law 19 = .ok (.aload_n 0, 1) := by decide +kernel
theorem dL_law_20 : decode cL_law 20 = .ok (.arraylength, 1) := by decide +kernel
theorem dL_law_21 : decode cL_law 21 = .ok (.bipush 6, 2) := by decide +kernel
theorem dL_law_23 : decode cL_law 23 = .ok (.isub, 1) := by decide +kernel
theorem dL_law_24 : decode cL_law 24 = .ok (.if_icmp .gt 1101, 3) := by decide +kernel
theorem dL_law_27 : decode cL_law 27 = .ok (.aload_n 0, 1) := by decide +kernel
theorem dL_law_28 : decode cL_law 28 = .ok (.iload_n 3, 1) := by decide +kernel
theorem dL_law_29 : decode cL_law 29 = .ok (.iaload, 1) := by decide +kernel
theorem dL_law_30 : decode cL_law 30 = .ok (.bipush 63, 2) := by decide +kernel
theorem dL_law_32 : decode cL_law 32 = .ok (.iand, 1) := by decide +kernel
theorem dL_law_33 : decode cL_law 33 = .ok (.tableswitch 1086 0 32 #[147, 210, 233, 246, 259, 282, 315, 348, 381, 414, 427, 450, 483, 516, 539, 552, 595, 628, 651, 674, 707, 750, 773, 806, 839, 862, 895, 918, 941, 964, 1017, 1040, 1063], 147) := by decide +kernel
theorem dL_law_1125 : decode cL_law 1125 = .ok (.iconst 1, 1) := by decide +kernel
theorem dL_law_1126 : decode cL_law 1126 = .ok (.ireturn, 1) := by decide +kernel
theorem or33 : ∀ j : Nat, j ≤ 32 → j = 0 ∨ j = 1 ∨ j = 2 ∨ j = 3 ∨ j = 4 ∨ j = 5 ∨ j = 6 ∨ j = 7 ∨ j = 8 ∨ j = 9 ∨ j = 10 ∨ j = 11 ∨ j = 12 ∨ j = 13 ∨ j = 14 ∨ j = 15 ∨ j = 16 ∨ j = 17 ∨ j = 18 ∨ j = 19 ∨ j = 20 ∨ j = 21 ∨ j = 22 ∨ j = 23 ∨ j = 24 ∨ j = 25 ∨ j = 26 ∨ j = 27 ∨ j = 28 ∨ j = 29 ∨ j = 30 ∨ j = 31 ∨ j = 32
  | 0, _ => Or.inl rfl
  | 1, _ => Or.inr (Or.inl rfl)
  | 2, _ => Or.inr (Or.inr (Or.inl rfl))
  | 3, _ => Or.inr (Or.inr (Or.inr (Or.inl rfl)))
  | 4, _ => Or.inr (Or.inr (Or.inr (Or.inr (Or.inl rfl))))
  | 5, _ => Or.inr (Or.inr (Or.inr (Or.inr (Or.inr (Or.inl rfl)))))
  | 6, _ => Or.inr (Or.inr (Or.inr (Or.inr (Or.inr (Or.inr (Or.inl rfl))))))
  | 7, _ => Or.inr (Or.inr (Or.inr (Or.inr (Or.inr (Or.inr (Or.inr (Or.inl rfl)))))))
  | 8, _ => Or.inr (Or.inr (Or.inr (Or.inr (Or.inr (Or.inr (Or.inr (Or.inr (Or.inl rfl))))))))
  | 9, _ => Or.inr (Or.inr (Or.inr (Or.inr (Or.inr (Or.inr (Or.inr (Or.inr (Or.inr (Or.inl rfl)))))))))
  | 10, _ => Or.inr (Or.inr (Or.inr (Or.inr (Or.inr (Or.inr (Or.inr (Or.inr (Or.inr (Or.inr (Or.inl rfl))))))))))
  | 11, _ => Or.inr (Or.inr (Or.inr (Or.inr (Or.inr (Or.inr (Or.inr (Or.inr (Or.inr (Or.inr (Or.inr (Or.inl rfl)))))))))))
  | 12, _ => Or.inr (Or.inr (Or.inr (Or.inr (Or.inr (Or.inr (Or.inr (Or.inr (Or.inr (Or.inr (Or.inr (Or.inr (Or.inl rfl))))))))))))
  | 13, _ => Or.inr (Or.inr (Or.inr (Or.inr (Or.inr (Or.inr (Or.inr (Or.inr (Or.inr (Or.inr (Or.inr (Or.inr (Or.inr (Or.inl rfl)))))))))))))
  | 14, _ => Or.inr (Or.inr (Or.inr (Or.inr (Or.inr (Or.inr (Or.inr (Or.inr (Or.inr (Or.inr (Or.inr (Or.inr (Or.inr (Or.inr (Or.inl rfl))))))))))))))
  | 15, _ => Or.inr (Or.inr (Or.inr (Or.inr (Or.inr (Or.inr (Or.inr (Or.inr (Or.inr (Or.inr (Or.inr (Or.inr (Or.inr (Or.inr (Or.inr (Or.inl rfl)))))))))))))))
  | 16, _ => Or.inr (Or.inr (Or.inr (Or.inr (Or.inr (Or.inr (Or.inr (Or.inr (Or.inr (Or.inr (Or.inr (Or.inr (Or.inr (Or.inr (Or.inr (Or.inr (Or.inl rfl))))))))))))))))
  | 17, _ => Or.inr (Or.inr (Or.inr (Or.inr (Or.inr (Or.inr (Or.inr (Or.inr (Or.inr (Or.inr (Or.inr (Or.inr (Or.inr (Or.inr (Or.inr (Or.inr (Or.inr (Or.inl rfl)))))))))))))))))
  | 18, _ => Or.inr (Or.inr (Or.inr (Or.inr (Or.inr (Or.inr (Or.inr (Or.inr (Or.inr (Or.inr (Or.inr (Or.inr (Or.inr (Or.inr (Or.inr (Or.inr (Or.inr (Or.inr (Or.inl rfl))))))))))))))))))
  | 19, _ => Or.inr (Or.inr (Or.inr (Or.inr (Or.inr (Or.inr (Or.inr (Or.inr (Or.inr (Or.inr (Or.inr (Or.inr (Or.inr (Or.inr (Or.inr (Or.inr (Or.inr (Or.inr (Or.inr (Or.inl rfl)))))))))))))))))))
  | 20, _ => Or.inr (Or.inr (Or.inr (Or.inr (Or.inr (Or.inr (Or.inr (Or.inr (Or.inr (Or.inr (Or.inr (Or.inr (Or.inr (Or.inr (Or.inr (Or.inr (Or.inr (Or.inr (Or.inr (Or.inr (Or.inl rfl))))))))))))))))))))
  | 21, _ => Or.inr (Or.inr (Or.inr (Or.inr (Or.inr (Or.inr (Or.inr (Or.inr (Or.inr (Or.inr (Or.inr (Or.inr (Or.inr (Or.inr (Or.inr (Or.inr (Or.inr (Or.inr (Or.inr (Or.inr (Or.inr (Or.inl rfl)))))))))))))))))))))
  | 22, _ => Or.inr (Or.inr (Or.inr (Or.inr (Or.inr (Or.inr (Or.inr (Or.inr (Or.inr (Or.inr (Or.inr (Or.inr (Or.inr (Or.inr (Or.inr (Or.inr (Or.inr (Or.inr (Or.inr (Or.inr (Or.inr (Or.inr (Or.inl rfl))))))))))))))))))))))
  | 23, _ => Or.inr (Or.inr (Or.inr (Or.inr (Or.inr (Or.inr (Or.inr (Or.inr (Or.inr (Or.inr (Or.inr (Or.inr (Or.inr (Or.inr (Or.inr (Or.inr (Or.inr (Or.inr (Or.inr (Or.inr (Or.inr (Or.inr (Or.inr (Or.inl rfl)))))))))))))))))))))))
  | 24, _ => Or.inr (Or.inr (Or.inr (Or.inr (Or.inr (Or.inr (Or.inr (Or.inr (Or.inr (Or.inr (Or.inr (Or.inr (Or.inr (Or.inr (Or.inr (Or.inr (Or.inr (Or.inr (Or.inr (Or.inr (Or.inr (Or.inr (Or.inr (Or.inr (Or.inl rfl))))))))))))))))))))))))
  | 25, _ => Or.inr (Or.inr (Or.inr (Or.inr (Or.inr (Or.inr (Or.inr (Or.inr (Or.inr (Or.inr (Or.inr (Or.inr (Or.inr (Or.inr (Or.inr (Or.inr (Or.inr (Or.inr (Or.inr (Or.inr (Or.inr (Or.inr (Or.inr (Or.inr (Or.inr (Or.inl rfl)))))))))))))))))))))))))
  | 26, _ => Or.inr (Or.inr (Or.inr (Or.inr (Or.inr (Or.inr (Or.inr (Or.inr (Or.inr (Or.inr (Or.inr (Or.inr (Or.inr (Or.inr (Or.inr (Or.inr (Or.inr (Or.inr (Or.inr (Or.inr (Or.inr (Or.inr (Or.inr (Or.inr (Or.inr (Or.inr (Or.inl rfl))))))))))))))))))))))))))
  | 27, _ => Or.inr (Or.inr (Or.inr (Or.inr (Or.inr (Or.inr (Or.inr (Or.inr (Or.inr (Or.inr (Or.inr (Or.inr (Or.inr (Or.inr (Or.inr (Or.inr (Or.inr (Or.inr (Or.inr (Or.inr (Or.inr (Or.inr (Or.inr (Or.inr (Or.inr (Or.inr (Or.inr (Or.inl rfl)))))))))))))))))))))))))))
  | 28, _ => Or.inr (Or.inr (Or.inr (Or.inr (Or.inr (Or.inr (Or.inr (Or.inr (Or.inr (Or.inr (Or.inr (Or.inr (Or.inr (Or.inr (Or.inr (Or.inr (Or.inr (Or.inr (Or.inr (Or.inr (Or.inr (Or.inr (Or.inr (Or.inr (Or.inr (Or.inr (Or.inr (Or.inr (Or.inl rfl))))))))))))))))))))))))))))
  | 29, _ => Or.inr (Or.inr (Or.inr (Or.inr (Or.inr (Or.inr (Or.inr (Or.inr (Or.inr (Or.inr (Or.inr (Or.inr (Or.inr (Or.inr (Or.inr (Or.inr (Or.inr (Or.inr (Or.inr (Or.inr (Or.inr (Or.inr (Or.inr (Or.inr (Or.inr (Or.inr (Or.inr (Or.inr (Or.inr (Or.inl rfl)))))))))))))))))))))))))))))
  | 30, _ => Or.inr (Or.inr (Or.inr (Or.inr (Or.inr (Or.inr (Or.inr (Or.inr (Or.inr (Or.inr (Or.inr (Or.inr (Or.inr (Or.inr (Or.inr (Or.inr (Or.inr (Or.inr (Or.inr (Or.inr (Or.inr (Or.inr (Or.inr (Or.inr (Or.inr (Or.inr (Or.inr (Or.inr (Or.inr (Or.inr (Or.inl rfl))))))))))))))))))))))))))))))
  | 31, _ => Or.inr (Or.inr (Or.inr (Or.inr (Or.inr (Or.inr (Or.inr (Or.inr (Or.inr (Or.inr (Or.inr (Or.inr (Or.inr (Or.inr (Or.inr (Or.inr (Or.inr (Or.inr (Or.inr (Or.inr (Or.inr (Or.inr (Or.inr (Or.inr (Or.inr (Or.inr (Or.inr (Or.inr (Or.inr (Or.inr (Or.inr (Or.inl rfl)))))))))))))))))))))))))))))))
  | 32, _ => Or.inr (Or.inr (Or.inr (Or.inr (Or.inr (Or.inr (Or.inr (Or.inr (Or.inr (Or.inr (Or.inr (Or.inr (Or.inr (Or.inr (Or.inr (Or.inr (Or.inr (Or.inr (Or.inr (Or.inr (Or.inr (Or.inr (Or.inr (Or.inr (Or.inr (Or.inr (Or.inr (Or.inr (Or.inr (Or.inr (Or.inr (Or.inr (rfl))))))))))))))))))))))))))))))))
  | _ + 33, h => absurd h (by omega)
set_option maxHeartbeats 4000000 in
set_option maxRecDepth 100000 in
theorem law_switch {p : Program} {l : Launch} {e : Env} {s : State} {m : MethodId} {below : List Frame} {meth : Method} {c : Code} {dC : Nat → ClassId} {dI : Nat → Nat → Nat} {b L : Nat} {xs : Nat → Int32} {aK aV : Nat → Nat} (C0 : lw_At p s m meth c b L xs) (hE : gE s) (A : Nat → Prop) (hAe : A = fun q : Nat => s.heap.size ≤ q) (hStr : gS aK aV A s s.heap) (hR : gR aK s) (aX aM k cs sl : Nat) (hk : 6 * k + 6 ≤ L) (hkk : k ≤ 512) (hcs : cs + 11 ≤ 600000) (hsl : sl + 200 ≤ 7302250) (next : ∀ (H : Heap) (locs : List Loc) (ls : Array Slot), LInv (dC, dI) A s b aX aM (k + 1) H locs ls → W p l e room_1 s m #[Value.ref b] below meth c H locs (cs + 11) (sl + 200) (lw_Z below #[Value.ref b] s) (F0 m 18 ls [])) (H : Heap) (locs : List Loc) (ls : Array Slot) (hI : LInv (dC, dI) A s b aX aM k H locs ls) (x : Int32) : W p l e room_1 s m #[Value.ref b] below meth c H locs cs sl (lw_Z below #[Value.ref b] s) (F0 m 33 ls [.int x]) := by
  obtain ⟨hx, hb, hr, hml, hown, hts0, hX, hbl, hlocks, hgv⟩ := id C0
  rcases sw_cases x 0 32 (by decide) with hc | hc
  · exact lv_tableOut (tgt := 1119) hx hb dL_law_33 hc (by decide) (law_case_out C0 hE A hAe hStr hR aX aM k cs sl hk hkk hcs hsl next H locs ls hI)
  · obtain ⟨j, hj0, hj, rfl⟩ := hc
    rcases or33 j hj with rfl | rfl | rfl | rfl | rfl | rfl | rfl | rfl | rfl | rfl | rfl | rfl | rfl | rfl | rfl | rfl | rfl | rfl | rfl | rfl | rfl | rfl | rfl | rfl | rfl | rfl | rfl | rfl | rfl | rfl | rfl | rfl | rfl
    · exact lv_tableIn (tgt := 180) hx hb dL_law_33 (by decide) (by decide) rfl (by decide) (law_case_0 C0 hE A hAe hStr hR aX aM k cs sl hk hkk hcs hsl next H locs ls hI)
    · exact lv_tableIn (tgt := 243) hx hb dL_law_33 (by decide) (by decide) rfl (by decide) (law_case_1 C0 hE A hAe hStr hR aX aM k cs sl hk hkk hcs hsl next H locs ls hI)
    · exact lv_tableIn (tgt := 266) hx hb dL_law_33 (by decide) (by decide) rfl (by decide) (law_case_2 C0 hE A hAe hStr hR aX aM k cs sl hk hkk hcs hsl next H locs ls hI)
    · exact lv_tableIn (tgt := 279) hx hb dL_law_33 (by decide) (by decide) rfl (by decide) (law_case_3 C0 hE A hAe hStr hR aX aM k cs sl hk hkk hcs hsl next H locs ls hI)
    · exact lv_tableIn (tgt := 292) hx hb dL_law_33 (by decide) (by decide) rfl (by decide) (law_case_4 C0 hE A hAe hStr hR aX aM k cs sl hk hkk hcs hsl next H locs ls hI)
    · exact lv_tableIn (tgt := 315) hx hb dL_law_33 (by decide) (by decide) rfl (by decide) (law_case_5 C0 hE A hAe hStr hR aX aM k cs sl hk hkk hcs hsl next H locs ls hI)
    · exact lv_tableIn (tgt := 348) hx hb dL_law_33 (by decide) (by decide) rfl (by decide) (law_case_6 C0 hE A hAe hStr hR aX aM k cs sl hk hkk hcs hsl next H locs ls hI)
    · exact lv_tableIn (tgt := 381) hx hb dL_law_33 (by decide) (by decide) rfl (by decide) (law_case_7 C0 hE A hAe hStr hR aX aM k cs sl hk hkk hcs hsl next H locs ls hI)
    · exact lv_tableIn (tgt := 414) hx hb dL_law_33 (by decide) (by decide) rfl (by decide) (law_case_8 C0 hE A hAe hStr hR aX aM k cs sl hk hkk hcs hsl next H locs ls hI)
    · exact lv_tableIn (tgt := 447) hx hb dL_law_33 (by decide) (by decide) rfl (by decide) (law_case_9 C0 hE A hAe hStr hR aX aM k cs sl hk hkk hcs hsl next H locs ls hI)
    · exact lv_tableIn (tgt := 460) hx hb dL_law_33 (by decide) (by decide) rfl (by decide) (law_case_10 C0 hE A hAe hStr hR aX aM k cs sl hk hkk hcs hsl next H locs ls hI)
    · exact lv_tableIn (tgt := 483) hx hb dL_law_33 (by decide) (by decide) rfl (by decide) (law_case_11 C0 hE A hAe hStr hR aX aM k cs sl hk hkk hcs hsl next H locs ls hI)
    · exact lv_tableIn (tgt := 516) hx hb dL_law_33 (by decide) (by decide) rfl (by decide) (law_case_12 C0 hE A hAe hStr hR aX aM k cs sl hk hkk hcs hsl next H locs ls hI)
    · exact lv_tableIn (tgt := 549) hx hb dL_law_33 (by decide) (by decide) rfl (by decide) (law_case_13 C0 hE A hAe hStr hR aX aM k cs sl hk hkk hcs hsl next H locs ls hI)
    · exact lv_tableIn (tgt := 572) hx hb dL_law_33 (by decide) (by decide) rfl (by decide) (law_case_14 C0 hE A hAe hStr hR aX aM k cs sl hk hkk hcs hsl next H locs ls hI)
    · exact lv_tableIn (tgt := 585) hx hb dL_law_33 (by decide) (by decide) rfl (by decide) (law_case_15 C0 hE A hAe hStr hR aX aM k cs sl hk hkk hcs hsl next H locs ls hI)
    · exact lv_tableIn (tgt := 628) hx hb dL_law_33 (by decide) (by decide) rfl (by decide) (law_case_16 C0 hE A hAe hStr hR aX aM k cs sl hk hkk hcs hsl next H locs ls hI)
    · exact lv_tableIn (tgt := 661) hx hb dL_law_33 (by decide) (by decide) rfl (by decide) (law_case_17 C0 hE A hAe hStr hR aX aM k cs sl hk hkk hcs hsl next H locs ls hI)
    · exact lv_tableIn (tgt := 684) hx hb dL_law_33 (by decide) (by decide) rfl (by decide) (law_case_18 C0 hE A hAe hStr hR aX aM k cs sl hk hkk hcs hsl next H locs ls hI)
    · exact lv_tableIn (tgt := 707) hx hb dL_law_33 (by decide) (by decide) rfl (by decide) (law_case_19 C0 hE A hAe hStr hR aX aM k cs sl hk hkk hcs hsl next H locs ls hI)
    · exact lv_tableIn (tgt := 740) hx hb dL_law_33 (by decide) (by decide) rfl (by decide) (law_case_20 C0 hE A hAe hStr hR aX aM k cs sl hk hkk hcs hsl next H locs ls hI)
    · exact lv_tableIn (tgt := 783) hx hb dL_law_33 (by decide) (by decide) rfl (by decide) (law_case_21 C0 hE A hAe hStr hR aX aM k cs sl hk hkk hcs hsl next H locs ls hI)
    · exact lv_tableIn (tgt := 806) hx hb dL_law_33 (by decide) (by decide) rfl (by decide) (law_case_22 C0 hE A hAe hStr hR aX aM k cs sl hk hkk hcs hsl next H locs ls hI)
    · exact lv_tableIn (tgt := 839) hx hb dL_law_33 (by decide) (by decide) rfl (by decide) (law_case_23 C0 hE A hAe hStr hR aX aM k cs sl hk hkk hcs hsl next H locs ls hI)
    · exact lv_tableIn (tgt := 872) hx hb dL_law_33 (by decide) (by decide) rfl (by decide) (law_case_24 C0 hE A hAe hStr hR aX aM k cs sl hk hkk hcs hsl next H locs ls hI)
    · exact lv_tableIn (tgt := 895) hx hb dL_law_33 (by decide) (by decide) rfl (by decide) (law_case_25 C0 hE A hAe hStr hR aX aM k cs sl hk hkk hcs hsl next H locs ls hI)
    · exact lv_tableIn (tgt := 928) hx hb dL_law_33 (by decide) (by decide) rfl (by decide) (law_case_26 C0 hE A hAe hStr hR aX aM k cs sl hk hkk hcs hsl next H locs ls hI)
    · exact lv_tableIn (tgt := 951) hx hb dL_law_33 (by decide) (by decide) rfl (by decide) (law_case_27 C0 hE A hAe hStr hR aX aM k cs sl hk hkk hcs hsl next H locs ls hI)
    · exact lv_tableIn (tgt := 974) hx hb dL_law_33 (by decide) (by decide) rfl (by decide) (law_case_28 C0 hE A hAe hStr hR aX aM k cs sl hk hkk hcs hsl next H locs ls hI)
    · exact lv_tableIn (tgt := 997) hx hb dL_law_33 (by decide) (by decide) rfl (by decide) (law_case_29 C0 hE A hAe hStr hR aX aM k cs sl hk hkk hcs hsl next H locs ls hI)
    · exact lv_tableIn (tgt := 1050) hx hb dL_law_33 (by decide) (by decide) rfl (by decide) (law_case_30 C0 hE A hAe hStr hR aX aM k cs sl hk hkk hcs hsl next H locs ls hI)
    · exact lv_tableIn (tgt := 1073) hx hb dL_law_33 (by decide) (by decide) rfl (by decide) (law_case_31 C0 hE A hAe hStr hR aX aM k cs sl hk hkk hcs hsl next H locs ls hI)
    · exact lv_tableIn (tgt := 1096) hx hb dL_law_33 (by decide) (by decide) rfl (by decide) (law_case_32 C0 hE A hAe hStr hR aX aM k cs sl hk hkk hcs hsl next H locs ls hI)
set_option maxHeartbeats 4000000 in
theorem law_head {p : Program} {l : Launch} {e : Env} {s : State} {m : MethodId} {below : List Frame} {meth : Method} {c : Code} {dC : Nat → ClassId} {dI : Nat → Nat → Nat} {b L : Nat} {xs : Nat → Int32} {aK aV : Nat → Nat} (C0 : lw_At p s m meth c b L xs) (hE : gE s) (A : Nat → Prop) (hAe : A = fun q : Nat => s.heap.size ≤ q) (hStr : gS aK aV A s s.heap) (hR : gR aK s) (hL : L ≤ 3072) (aX aM k cs sl : Nat) (hkk : k ≤ 512) (hcs : cs + 11 ≤ 600000) (hsl : sl + 200 ≤ 7302250) (next : 6 * k + 6 ≤ L → ∀ (H : Heap) (locs : List Loc) (ls : Array Slot), LInv (dC, dI) A s b aX aM (k + 1) H locs ls → W p l e room_1 s m #[Value.ref b] below meth c H locs (cs + 11) (sl + 200) (lw_Z below #[Value.ref b] s) (F0 m 18 ls [])) (H : Heap) (locs : List Loc) (ls : Array Slot) (hI : LInv (dC, dI) A s b aX aM k H locs ls) : W p l e room_1 s m #[Value.ref b] below meth c H locs cs sl (lw_Z below #[Value.ref b] s) (F0 m 18 ls []) := by
  obtain ⟨hx, hb, hr, hml, hown, hts0, hX, hbl, hlocks, hgv⟩ := id C0
  have hts : ∀ w ∈ gT, w.before #[Value.ref b] s = true := fun w h => hts0 w (gT_sub h)
  have hA : ∀ q : Nat, s.heap.size ≤ q → A q := by rw [hAe]; exact fun _ h => h
  have hbA : ¬ A b := by rw [hAe]; exact Nat.not_le.mpr hbl
  have hI0 := hI
  obtain ⟨tys, κ, B, w, x, ys, ms, hw, kX, kM, hBX, hMX, hRT, hDY, hl⟩ := hI
  refine lv_iload_n hx hb dL_law_18 rfl (lv_at hl 0 rfl) ?_
  refine lv_aload_n hx hb dL_law_19 rfl (lv_at hl 3 rfl) ?_
  refine va_slen hx hb hX hbl hbA hw.2.2.2.1 dL_law_20 ?_
  refine lv_bipush (v := 6) hx hb dL_law_21 (by decide) ?_
  refine lv_isub hx hb dL_law_23 ?_
  refine lv_topi (fun v23 e_v23 => ?_)
  have hLt : (Int32.ofNat L).toInt = (L : Int) := nI_toInt (n := L) (by omega)
  have e_v23 : v23.toInt = (L : Int) - 6 := sb_i e_v23 hLt li_6 (by omega) (by omega)
  have hkt : (nI (6 * k)).toInt = ((6 * k : Nat) : Int) := nI_toInt (by omega)
  refine lv_icmp_gt (tgt := 1125) hx hb dL_law_24 (by decide) (fun c_24 => ?_) (fun c_24 => ?_)
  · refine lv_iconst (v := 1) hx hb dL_law_1125 (by decide) ?_
    refine va_forget (fun q hq => by have hq2 := hw.2.2.2.1.2.2 q hq; rw [hAe] at hq2; exact hq2) ?_
    refine W.widen (k := 600000) (n := 7302250) (by omega) (by omega) ?_
    exact lw_ret hx hb hr hlocks dL_law_1126
  · simp only [fa_lt, fa_le, fa_eq] at c_24
    have hk : 6 * k + 6 ≤ L := by omega
    refine lv_aload_n hx hb dL_law_27 rfl (lv_at hl 3 rfl) ?_
    refine lv_iload_n hx hb dL_law_28 rfl (lv_at hl 0 rfl) ?_
    refine va_sld hx hb hX hbl hbA hw.2.2.2.1 (sc_in0 (by omega) (by omega)) dL_law_29 ?_
    refine lv_bipush (v := 63) hx hb dL_law_30 (by decide) ?_
    refine lv_iand hx hb dL_law_32 ?_
    refine lv_topi (fun v32 e_v32 => ?_)
    exact law_switch C0 hE A hAe hStr hR aX aM k cs sl hk hkk hcs hsl (next hk) H locs ls hI0 v32
theorem law_loop {p : Program} {l : Launch} {e : Env} {s : State} {m : MethodId} {below : List Frame} {meth : Method} {c : Code} {dC : Nat → ClassId} {dI : Nat → Nat → Nat} {b L : Nat} {xs : Nat → Int32} {aK aV : Nat → Nat} (C0 : lw_At p s m meth c b L xs) (hE : gE s) (A : Nat → Prop) (hAe : A = fun q : Nat => s.heap.size ≤ q) (hStr : gS aK aV A s s.heap) (hR : gR aK s) (hL : L ≤ 3072) (aX aM : Nat) : ∀ (n k cs sl : Nat), n + k = 512 → cs + 11 * (n + 1) ≤ 600000 → sl + 200 * (n + 1) ≤ 7302250 → ∀ (H : Heap) (locs : List Loc) (ls : Array Slot), LInv (dC, dI) A s b aX aM k H locs ls → W p l e room_1 s m #[Value.ref b] below meth c H locs cs sl (lw_Z below #[Value.ref b] s) (F0 m 18 ls []) := by
  intro n
  induction n with
  | zero =>
    intro k cs sl h1 h2 h3 H locs ls hI
    exact law_head C0 hE A hAe hStr hR hL aX aM k cs sl (by omega) (by omega) (by omega) (fun h => absurd h (by omega)) H locs ls hI
  | succ n ih =>
    intro k cs sl h1 h2 h3 H locs ls hI
    exact law_head C0 hE A hAe hStr hR hL aX aM k cs sl (by omega) (by omega) (by omega) (fun _ H locs ls hI => ih (k + 1) (cs + 11) (sl + 200) (by omega) (by omega) (by omega) H locs ls hI) H locs ls hI
