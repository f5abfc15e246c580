theorem ts_5_11 : Cond.selects "BoyBishopModel" ⟨"BoyBishopModel", "isFarm", "(I)Z"⟩ ⟨"BoyBishopModel", "isFarm", "(I)Z"⟩ ∈ gT := gT_in (List.mem_append_left _ (List.mem_map.mpr ⟨(⟨"BoyBishopModel", "isFarm", "(I)Z"⟩, 38), (List.mem_append_right _ (List.mem_append_right _ (List.mem_append_right _ (List.mem_append_right _ (List.mem_append_right _ (List.mem_append_left _ (List.mem_of_getElem? (i := 11) rfl))))))), rfl⟩)) rfl
theorem ts_6_12 : Cond.selects "BoyBishopModel" ⟨"BoyBishopModel", "isSnow", "()Z"⟩ ⟨"BoyBishopModel", "isSnow", "()Z"⟩ ∈ gT := gT_in (List.mem_append_left _ (List.mem_map.mpr ⟨(⟨"BoyBishopModel", "isSnow", "()Z"⟩, 38), (List.mem_append_right _ (List.mem_append_right _ (List.mem_append_right _ (List.mem_append_right _ (List.mem_append_right _ (List.mem_append_right _ (List.mem_append_left _ (List.mem_of_getElem? (i := 12) rfl)))))))), rfl⟩)) rfl
theorem tw_1158 : (Jvm.Cond.fieldLink "BoyBishopModel" (459 : Nat) "BoyBishopModel" "drawX" "J") ∈ gT := gT_in (List.mem_append_right _ (List.mem_append_right _ (List.mem_append_right _ (List.mem_append_right _ (List.mem_append_right _ (List.mem_append_left _ (List.mem_of_getElem? (i := 198) rfl))))))) rfl
theorem tw_1477 : (Jvm.Cond.methodLink "BoyBishopModel" (325 : Nat) ({ cls := "BoyBishopModel", name := "isFarm", desc := "(I)Z" } : Jvm.MethodName)) ∈ gT := gT_in (List.mem_append_right _ (List.mem_append_right _ (List.mem_append_right _ (List.mem_append_right _ (List.mem_append_right _ (List.mem_append_right _ (List.mem_append_right _ (List.mem_append_left _ (List.mem_of_getElem? (i := 37) rfl))))))))) rfl
theorem tw_1479 : (Jvm.Cond.instanceMethod ({ cls := "BoyBishopModel", name := "isFarm", desc := "(I)Z" } : Jvm.MethodName)) ∈ gT := gT_in (List.mem_append_right _ (List.mem_append_right _ (List.mem_append_right _ (List.mem_append_right _ (List.mem_append_right _ (List.mem_append_right _ (List.mem_append_right _ (List.mem_append_left _ (List.mem_of_getElem? (i := 39) rfl))))))))) rfl
theorem tw_1480 : (Jvm.Cond.code ({ cls := "BoyBishopModel", name := "isFarm", desc := "(I)Z" } : Jvm.MethodName) prog_14_method_54_code (2 : Nat) (Option.some Jvm.ClassFile.FieldType.boolean)) ∈ gT := gT_in (List.mem_append_right _ (List.mem_append_right _ (List.mem_append_right _ (List.mem_append_right _ (List.mem_append_right _ (List.mem_append_right _ (List.mem_append_right _ (List.mem_append_left _ (List.mem_of_getElem? (i := 40) rfl))))))))) rfl
theorem tw_1556 : (Jvm.Cond.methodLink "BoyBishopModel" (367 : Nat) ({ cls := "BoyBishopModel", name := "isSnow", desc := "()Z" } : Jvm.MethodName)) ∈ gT := gT_in (List.mem_append_right _ (List.mem_append_right _ (List.mem_append_right _ (List.mem_append_right _ (List.mem_append_right _ (List.mem_append_right _ (List.mem_append_right _ (List.mem_append_left _ (List.mem_of_getElem? (i := 116) rfl))))))))) rfl
theorem tw_1558 : (Jvm.Cond.instanceMethod ({ cls := "BoyBishopModel", name := "isSnow", desc := "()Z" } : Jvm.MethodName)) ∈ gT := gT_in (List.mem_append_right _ (List.mem_append_right _ (List.mem_append_right _ (List.mem_append_right _ (List.mem_append_right _ (List.mem_append_right _ (List.mem_append_right _ (List.mem_append_left _ (List.mem_of_getElem? (i := 118) rfl))))))))) rfl
theorem tw_1559 : (Jvm.Cond.code ({ cls := "BoyBishopModel", name := "isSnow", desc := "()Z" } : Jvm.MethodName) prog_14_method_60_code (1 : Nat) (Option.some Jvm.ClassFile.FieldType.boolean)) ∈ gT := gT_in (List.mem_append_right _ (List.mem_append_right _ (List.mem_append_right _ (List.mem_append_right _ (List.mem_append_right _ (List.mem_append_right _ (List.mem_append_right _ (List.mem_append_left _ (List.mem_of_getElem? (i := 119) rfl))))))))) rfl
theorem tw_1596 : (Jvm.Cond.constantLong "BoyBishopModel" (390 : Nat) (60 : Int64)) ∈ gT := gT_in (List.mem_append_right _ (List.mem_append_right _ (List.mem_append_right _ (List.mem_append_right _ (List.mem_append_right _ (List.mem_append_right _ (List.mem_append_right _ (List.mem_append_left _ (List.mem_of_getElem? (i := 156) rfl))))))))) rfl
theorem tw_1737 : (Jvm.Cond.constantLong "BoyBishopModel" (463 : Nat) (1103515245 : Int64)) ∈ gT := gT_in (List.mem_append_right _ (List.mem_append_right _ (List.mem_append_right _ (List.mem_append_right _ (List.mem_append_right _ (List.mem_append_right _ (List.mem_append_right _ (List.mem_append_right _ (List.mem_of_getElem? (i := 57) rfl))))))))) rfl
theorem tw_1738 : (Jvm.Cond.constantLong "BoyBishopModel" (465 : Nat) (12345 : Int64)) ∈ gT := gT_in (List.mem_append_right _ (List.mem_append_right _ (List.mem_append_right _ (List.mem_append_right _ (List.mem_append_right _ (List.mem_append_right _ (List.mem_append_right _ (List.mem_append_right _ (List.mem_of_getElem? (i := 58) rfl))))))))) rfl
theorem tw_1739 : (Jvm.Cond.constantLong "BoyBishopModel" (467 : Nat) (2147483648 : Int64)) ∈ gT := gT_in (List.mem_append_right _ (List.mem_append_right _ (List.mem_append_right _ (List.mem_append_right _ (List.mem_append_right _ (List.mem_append_right _ (List.mem_append_right _ (List.mem_append_right _ (List.mem_of_getElem? (i := 59) rfl))))))))) rfl
theorem tw_1740 : (Jvm.Cond.constantLong "BoyBishopModel" (469 : Nat) (65536 : Int64)) ∈ gT := gT_in (List.mem_append_right _ (List.mem_append_right _ (List.mem_append_right _ (List.mem_append_right _ (List.mem_append_right _ (List.mem_append_right _ (List.mem_append_right _ (List.mem_append_right _ (List.mem_of_getElem? (i := 60) rfl))))))))) rfl
theorem dX12_count_0 : decode cX12_count 0 = .ok (.iconst 0, 1) := by decide +kernel
theorem dX12_count_1 : decode cX12_count 1 = .ok (.istore_n 2, 1) := by decide +kernel
theorem dX12_count_2 : decode cX12_count 2 = .ok (.iload_n 1, 1) := by decide +kernel
theorem dX12_count_3 : decode cX12_count 3 = .ok (.tableswitch 288 0 19 #[93, 93, 93, 93, 93, 102, 107, 112, 120, 139, 158, 166, 174, 182, 195, 226, 264, 273, 278, 283], 93) := by decide +kernel
theorem dX12_count_96 : decode cX12_count 96 = .ok (.aload_n 0, 1) := by decide +kernel
theorem dX12_count_97 : decode cX12_count 97 = .ok (.getfield 39, 3) := by decide +kernel
theorem dX12_count_100 : decode cX12_count 100 = .ok (.iload_n 1, 1) := by decide +kernel
theorem dX12_count_101 : decode cX12_count 101 = .ok (.iconst 1, 1) := by decide +kernel
theorem dX12_count_102 : decode cX12_count 102 = .ok (.iadd, 1) := by decide +kernel
theorem dX12_count_103 : decode cX12_count 103 = .ok (.iaload, 1) := by decide +kernel
theorem dX12_count_104 : decode cX12_count 104 = .ok (.ireturn, 1) := by decide +kernel
theorem dX12_count_105 : decode cX12_count 105 = .ok (.aload_n 0, 1) := by decide +kernel
theorem dX12_count_106 : decode cX12_count 106 = .ok (.getfield 271, 3) := by decide +kernel
theorem dX12_count_109 : decode cX12_count 109 = .ok (.ireturn, 1) := by decide +kernel
theorem dX12_count_110 : decode cX12_count 110 = .ok (.aload_n 0, 1) := by decide +kernel
theorem dX12_count_111 : decode cX12_count 111 = .ok (.getfield 42, 3) := by decide +kernel
theorem dX12_count_114 : decode cX12_count 114 = .ok (.ireturn, 1) := by decide +kernel
theorem dX12_count_115 : decode cX12_count 115 = .ok (.aload_n 0, 1) := by decide +kernel
theorem dX12_count_116 : decode cX12_count 116 = .ok (.getfield 39, 3) := by decide +kernel
theorem dX12_count_119 : decode cX12_count 119 = .ok (.bipush 10, 2) := by decide +kernel
theorem dX12_count_121 : decode cX12_count 121 = .ok (.iaload, 1) := by decide +kernel
theorem dX12_count_122 : decode cX12_count 122 = .ok (.ireturn, 1) := by decide +kernel
theorem dX12_count_123 : decode cX12_count 123 = .ok (.aload_n 0, 1) := by decide +kernel
theorem dX12_count_124 : decode cX12_count 124 = .ok (.invokevirtual 379, 3) := by decide +kernel
theorem dX12_count_127 : decode cX12_count 127 = .ok (.ifCond .eq 13, 3) := by decide +kernel
theorem dX12_count_130 : decode cX12_count 130 = .ok (.aload_n 0, 1) := by decide +kernel
theorem dX12_count_131 : decode cX12_count 131 = .ok (.getfield 39, 3) := by decide +kernel
theorem dX12_count_134 : decode cX12_count 134 = .ok (.bipush 11, 2) := by decide +kernel
theorem dX12_count_136 : decode cX12_count 136 = .ok (.iaload, 1) := by decide +kernel
theorem dX12_count_137 : decode cX12_count 137 = .ok (.goto 4, 3) := by decide +kernel
theorem dX12_count_140 : decode cX12_count 140 = .ok (.iconst (-1), 1) := by decide +kernel
theorem dX12_count_141 : decode cX12_count 141 = .ok (.ireturn, 1) := by decide +kernel
theorem dX12_count_142 : decode cX12_count 142 = .ok (.aload_n 0, 1) := by decide +kernel
theorem dX12_count_143 : decode cX12_count 143 = .ok (.invokevirtual 379, 3) := by decide +kernel
theorem dX12_count_146 : decode cX12_count 146 = .ok (.ifCond .eq 13, 3) := by decide +kernel
theorem dX12_count_149 : decode cX12_count 149 = .ok (.aload_n 0, 1) := by decide +kernel
theorem dX12_count_150 : decode cX12_count 150 = .ok (.getfield 39, 3) := by decide +kernel
theorem dX12_count_153 : decode cX12_count 153 = .ok (.bipush 12, 2) := by decide +kernel
theorem dX12_count_155 : decode cX12_count 155 = .ok (.iaload, 1) := by decide +kernel
theorem dX12_count_156 : decode cX12_count 156 = .ok (.goto 4, 3) := by decide +kernel
theorem dX12_count_159 : decode cX12_count 159 = .ok (.iconst (-1), 1) := by decide +kernel
theorem dX12_count_160 : decode cX12_count 160 = .ok (.ireturn, 1) := by decide +kernel
theorem dX12_count_161 : decode cX12_count 161 = .ok (.aload_n 0, 1) := by decide +kernel
theorem dX12_count_162 : decode cX12_count 162 = .ok (.getfield 39, 3) := by decide +kernel
theorem dX12_count_165 : decode cX12_count 165 = .ok (.bipush 13, 2) := by decide +kernel
theorem dX12_count_167 : decode cX12_count 167 = .ok (.iaload, 1) := by decide +kernel
theorem dX12_count_168 : decode cX12_count 168 = .ok (.ireturn, 1) := by decide +kernel
theorem dX12_count_169 : decode cX12_count 169 = .ok (.aload_n 0, 1) := by decide +kernel
theorem dX12_count_170 : decode cX12_count 170 = .ok (.getfield 39, 3) := by decide +kernel
theorem dX12_count_173 : decode cX12_count 173 = .ok (.bipush 14, 2) := by decide +kernel
theorem dX12_count_175 : decode cX12_count 175 = .ok (.iaload, 1) := by decide +kernel
theorem dX12_count_176 : decode cX12_count 176 = .ok (.ireturn, 1) := by decide +kernel
theorem dX12_count_177 : decode cX12_count 177 = .ok (.aload_n 0, 1) := by decide +kernel
theorem dX12_count_178 : decode cX12_count 178 = .ok (.getfield 39, 3) := by decide +kernel
theorem dX12_count_181 : decode cX12_count 181 = .ok (.bipush 15, 2) := by decide +kernel
theorem dX12_count_183 : decode cX12_count 183 = .ok (.iaload, 1) := by decide +kernel
theorem dX12_count_184 : decode cX12_count 184 = .ok (.ireturn, 1) := by decide +kernel
theorem dX12_count_185 : decode cX12_count 185 = .ok (.aload_n 0, 1) := by decide +kernel
theorem dX12_count_186 : decode cX12_count 186 = .ok (.invokevirtual 367, 3) := by decide +kernel
theorem dX12_count_189 : decode cX12_count 189 = .ok (.ifCond .eq 7, 3) := by decide +kernel
theorem dX12_count_192 : decode cX12_count 192 = .ok (.iconst 1, 1) := by decide +kernel
theorem dX12_count_193 : decode cX12_count 193 = .ok (.goto 4, 3) := by decide +kernel
theorem dX12_count_196 : decode cX12_count 196 = .ok (.iconst 0, 1) := by decide +kernel
theorem dX12_count_197 : decode cX12_count 197 = .ok (.ireturn, 1) := by decide +kernel
theorem dX12_count_198 : decode cX12_count 198 = .ok (.iconst 0, 1) := by decide +kernel
theorem dX12_count_199 : decode cX12_count 199 = .ok (.istore_n 3, 1) := by decide +kernel
theorem dX12_count_200 : decode cX12_count 200 = .ok (.iload_n 3, 1) := by decide +kernel
theorem dX12_count_201 : decode cX12_count 201 = .ok (.aload_n 0, 1) := by decide +kernel
theorem dX12_count_202 : decode cX12_count 202 = .ok (.getfield 39, 3) := by decide +kernel
theorem dX12_count_205 : decode cX12_count 205 = .ok (.iconst 4, 1) := by decide +kernel
theorem dX12_count_206 : decode cX12_count 206 = .ok (.iaload, 1) := by decide +kernel
theorem dX12_count_207 : decode cX12_count 207 = .ok (.if_icmp .ge 20, 3) := by decide +kernel
theorem dX12_count_210 : decode cX12_count 210 = .ok (.iload_n 2, 1) := by decide +kernel
theorem dX12_count_211 : decode cX12_count 211 = .ok (.aload_n 0, 1) := by decide +kernel
theorem dX12_count_212 : decode cX12_count 212 = .ok (.iload_n 3, 1) := by decide +kernel
theorem dX12_count_213 : decode cX12_count 213 = .ok (.iconst 1, 1) := by decide +kernel
theorem dX12_count_214 : decode cX12_count 214 = .ok (.invokevirtual 311, 3) := by decide +kernel
theorem dX12_count_217 : decode cX12_count 217 = .ok (.iload_n 3, 1) := by decide +kernel
theorem dX12_count_218 : decode cX12_count 218 = .ok (.ishl, 1) := by decide +kernel
theorem dX12_count_219 : decode cX12_count 219 = .ok (.ior, 1) := by decide +kernel
theorem dX12_count_220 : decode cX12_count 220 = .ok (.istore_n 2, 1) := by decide +kernel
theorem dX12_count_221 : decode cX12_count 221 = .ok (.iinc 3 1, 3) := by decide +kernel
theorem dX12_count_224 : decode cX12_count 224 = .ok (.goto (-24), 3) := by decide +kernel
theorem dX12_count_227 : decode cX12_count 227 = .ok (.iload_n 2, 1) := by decide +kernel
theorem dX12_count_228 : decode cX12_count 228 = .ok (.ireturn, 1) := by decide +kernel
theorem dX12_count_229 : decode cX12_count 229 = .ok (.iconst 0, 1) := by decide +kernel
theorem dX12_count_230 : decode cX12_count 230 = .ok (.istore_n 3, 1) := by decide +kernel
theorem dX12_count_231 : decode cX12_count 231 = .ok (.iload_n 3, 1) := by decide +kernel
theorem dX12_count_232 : decode cX12_count 232 = .ok (.aload_n 0, 1) := by decide +kernel
theorem dX12_count_233 : decode cX12_count 233 = .ok (.getfield 39, 3) := by decide +kernel
theorem dX12_count_236 : decode cX12_count 236 = .ok (.iconst 3, 1) := by decide +kernel
theorem dX12_count_237 : decode cX12_count 237 = .ok (.iaload, 1) := by decide +kernel
theorem dX12_count_238 : decode cX12_count 238 = .ok (.if_icmp .ge 27, 3) := by decide +kernel
theorem dX12_count_241 : decode cX12_count 241 = .ok (.iload_n 2, 1) := by decide +kernel
theorem dX12_count_242 : decode cX12_count 242 = .ok (.aload_n 0, 1) := by decide +kernel
theorem dX12_count_243 : decode cX12_count 243 = .ok (.iload_n 3, 1) := by decide +kernel
theorem dX12_count_244 : decode cX12_count 244 = .ok (.invokevirtual 314, 3) := by decide +kernel
theorem dX12_count_247 : decode cX12_count 247 = .ok (.ifCond .eq 7, 3) := by decide +kernel
theorem dX12_count_250 : decode cX12_count 250 = .ok (.iconst 0, 1) := by decide +kernel
theorem dX12_count_251 : decode cX12_count 251 = .ok (.goto 6, 3) := by decide +kernel
theorem dX12_count_254 : decode cX12_count 254 = .ok (.iconst 1, 1) := by decide +kernel
theorem dX12_count_255 : decode cX12_count 255 = .ok (.iload_n 3, 1) := by decide +kernel
theorem dX12_count_256 : decode cX12_count 256 = .ok (.ishl, 1) := by decide +kernel
theorem dX12_count_257 : decode cX12_count 257 = .ok (.ior, 1) := by decide +kernel
theorem dX12_count_258 : decode cX12_count 258 = .ok (.istore_n 2, 1) := by decide +kernel
theorem dX12_count_259 : decode cX12_count 259 = .ok (.iinc 3 1, 3) := by decide +kernel
theorem dX12_count_262 : decode cX12_count 262 = .ok (.goto (-31), 3) := by decide +kernel
theorem dX12_count_265 : decode cX12_count 265 = .ok (.iload_n 2, 1) := by decide +kernel
theorem dX12_count_266 : decode cX12_count 266 = .ok (.ireturn, 1) := by decide +kernel
theorem dX12_count_267 : decode cX12_count 267 = .ok (.aload_n 0, 1) := by decide +kernel
theorem dX12_count_268 : decode cX12_count 268 = .ok (.getfield 39, 3) := by decide +kernel
theorem dX12_count_271 : decode cX12_count 271 = .ok (.sipush 305, 3) := by decide +kernel
theorem dX12_count_274 : decode cX12_count 274 = .ok (.iaload, 1) := by decide +kernel
theorem dX12_count_275 : decode cX12_count 275 = .ok (.ireturn, 1) := by decide +kernel
theorem dX12_count_276 : decode cX12_count 276 = .ok (.aload_n 0, 1) := by decide +kernel
theorem dX12_count_277 : decode cX12_count 277 = .ok (.getfield 283, 3) := by decide +kernel
theorem dX12_count_280 : decode cX12_count 280 = .ok (.ireturn, 1) := by decide +kernel
theorem dX12_count_281 : decode cX12_count 281 = .ok (.aload_n 0, 1) := by decide +kernel
theorem dX12_count_282 : decode cX12_count 282 = .ok (.getfield 456, 3) := by decide +kernel
theorem dX12_count_285 : decode cX12_count 285 = .ok (.ireturn, 1) := by decide +kernel
theorem dX12_count_286 : decode cX12_count 286 = .ok (.aload_n 0, 1) := by decide +kernel
theorem dX12_count_287 : decode cX12_count 287 = .ok (.getfield 83, 3) := by decide +kernel
theorem dX12_count_290 : decode cX12_count 290 = .ok (.ireturn, 1) := by decide +kernel
theorem dX12_count_291 : decode cX12_count 291 = .ok (.iconst (-1), 1) := by decide +kernel
theorem dX12_count_292 : decode cX12_count 292 = .ok (.ireturn, 1) := by decide +kernel
theorem dX12_draw_0 : decode cX12_draw 0 = .ok (.aload_n 0, 1) := by decide +kernel
theorem dX12_draw_1 : decode cX12_draw 1 = .ok (.aload_n 0, 1) := by decide +kernel
theorem dX12_draw_2 : decode cX12_draw 2 = .ok (.getfield 459, 3) := by decide +kernel
theorem dX12_draw_5 : decode cX12_draw 5 = .ok (.ldc2_w 463, 3) := by decide +kernel
theorem dX12_draw_8 : decode cX12_draw 8 = .ok (.lmul, 1) := by decide +kernel
theorem dX12_draw_9 : decode cX12_draw 9 = .ok (.ldc2_w 465, 3) := by decide +kernel
theorem dX12_draw_12 : decode cX12_draw 12 = .ok (.ladd, 1) := by decide +kernel
theorem dX12_draw_13 : decode cX12_draw 13 = .ok (.ldc2_w 467, 3) := by decide +kernel
theorem dX12_draw_16 : decode cX12_draw 16 = .ok (.lrem, 1) := by decide +kernel
theorem dX12_draw_17 : decode cX12_draw 17 = .ok (.putfield 459, 3) := by decide +kernel
theorem dX12_draw_20 : decode cX12_draw 20 = .ok (.aload_n 0, 1) := by decide +kernel
theorem dX12_draw_21 : decode cX12_draw 21 = .ok (.getfield 459, 3) := by decide +kernel
theorem dX12_draw_24 : decode cX12_draw 24 = .ok (.ldc2_w 469, 3) := by decide +kernel
theorem dX12_draw_27 : decode cX12_draw 27 = .ok (.ldiv, 1) := by decide +kernel
theorem dX12_draw_28 : decode cX12_draw 28 = .ok (.iload_n 1, 1) := by decide +kernel
theorem dX12_draw_29 : decode cX12_draw 29 = .ok (.i2l, 1) := by decide +kernel
theorem dX12_draw_30 : decode cX12_draw 30 = .ok (.lrem, 1) := by decide +kernel
theorem dX12_draw_31 : decode cX12_draw 31 = .ok (.l2i, 1) := by decide +kernel
theorem dX12_draw_32 : decode cX12_draw 32 = .ok (.ireturn, 1) := by decide +kernel
theorem dX12_end_0 : decode cX12_end 0 = .ok (.iload_n 1, 1) := by decide +kernel
theorem dX12_end_1 : decode cX12_end 1 = .ok (.ifCond .lt 11, 3) := by decide +kernel
theorem dX12_end_4 : decode cX12_end 4 = .ok (.iload_n 1, 1) := by decide +kernel
theorem dX12_end_5 : decode cX12_end 5 = .ok (.aload_n 0, 1) := by decide +kernel
theorem dX12_end_6 : decode cX12_end 6 = .ok (.getfield 83, 3) := by decide +kernel
theorem dX12_end_9 : decode cX12_end 9 = .ok (.if_icmp .le 5, 3) := by decide +kernel
theorem dX12_end_12 : decode cX12_end 12 = .ok (.iconst (-1), 1) := by decide +kernel
theorem dX12_end_13 : decode cX12_end 13 = .ok (.ireturn, 1) := by decide +kernel
theorem dX12_end_14 : decode cX12_end 14 = .ok (.aload_n 0, 1) := by decide +kernel
theorem dX12_end_15 : decode cX12_end 15 = .ok (.iload_n 1, 1) := by decide +kernel
theorem dX12_end_16 : decode cX12_end 16 = .ok (.putfield 83, 3) := by decide +kernel
theorem dX12_end_19 : decode cX12_end 19 = .ok (.iload_n 1, 1) := by decide +kernel
theorem dX12_end_20 : decode cX12_end 20 = .ok (.ireturn, 1) := by decide +kernel
theorem dX12_falls_0 : decode cX12_falls 0 = .ok (.aload_n 0, 1) := by decide +kernel
theorem dX12_falls_1 : decode cX12_falls 1 = .ok (.iload_n 1, 1) := by decide +kernel
theorem dX12_falls_2 : decode cX12_falls 2 = .ok (.invokevirtual 361, 3) := by decide +kernel
theorem dX12_falls_5 : decode cX12_falls 5 = .ok (.ifCond .eq 15, 3) := by decide +kernel
theorem dX12_falls_8 : decode cX12_falls 8 = .ok (.iload_n 2, 1) := by decide +kernel
theorem dX12_falls_9 : decode cX12_falls 9 = .ok (.i2l, 1) := by decide +kernel
theorem dX12_falls_10 : decode cX12_falls 10 = .ok (.lconst 1, 1) := by decide +kernel
theorem dX12_falls_11 : decode cX12_falls 11 = .ok (.ldc2_w 390, 3) := by decide +kernel
theorem dX12_falls_14 : decode cX12_falls 14 = .ok (.invokestatic 121, 3) := by decide +kernel
theorem dX12_falls_17 : decode cX12_falls 17 = .ok (.ifCond .ne 5, 3) := by decide +kernel
theorem dX12_falls_20 : decode cX12_falls 20 = .ok (.iconst (-1), 1) := by decide +kernel
theorem dX12_falls_21 : decode cX12_falls 21 = .ok (.ireturn, 1) := by decide +kernel
theorem dX12_falls_22 : decode cX12_falls 22 = .ok (.aload_n 0, 1) := by decide +kernel
theorem dX12_falls_23 : decode cX12_falls 23 = .ok (.iload_n 1, 1) := by decide +kernel
theorem dX12_falls_24 : decode cX12_falls 24 = .ok (.iconst 0, 1) := by decide +kernel
theorem dX12_falls_25 : decode cX12_falls 25 = .ok (.invokevirtual 311, 3) := by decide +kernel
theorem dX12_falls_28 : decode cX12_falls 28 = .ok (.istore_n 3, 1) := by decide +kernel
theorem dX12_falls_29 : decode cX12_falls 29 = .ok (.aload_n 0, 1) := by decide +kernel
theorem dX12_falls_30 : decode cX12_falls 30 = .ok (.getfield 39, 3) := by decide +kernel
theorem dX12_falls_33 : decode cX12_falls 33 = .ok (.bipush 10, 2) := by decide +kernel
theorem dX12_falls_35 : decode cX12_falls 35 = .ok (.iaload, 1) := by decide +kernel
theorem dX12_falls_36 : decode cX12_falls 36 = .ok (.istore 4, 2) := by decide +kernel
theorem dX12_falls_38 : decode cX12_falls 38 = .ok (.iload 4, 2) := by decide +kernel
theorem dX12_falls_40 : decode cX12_falls 40 = .ok (.aload_n 0, 1) := by decide +kernel
theorem dX12_falls_41 : decode cX12_falls 41 = .ok (.getfield 39, 3) := by decide +kernel
theorem dX12_falls_44 : decode cX12_falls 44 = .ok (.bipush 10, 2) := by decide +kernel
theorem dX12_falls_46 : decode cX12_falls 46 = .ok (.iaload, 1) := by decide +kernel
theorem dX12_falls_47 : decode cX12_falls 47 = .ok (.iload_n 2, 1) := by decide +kernel
theorem dX12_falls_48 : decode cX12_falls 48 = .ok (.iadd, 1) := by decide +kernel
theorem dX12_falls_49 : decode cX12_falls 49 = .ok (.if_icmp .ge 36, 3) := by decide +kernel
theorem dX12_falls_52 : decode cX12_falls 52 = .ok (.iload_n 3, 1) := by decide +kernel
theorem dX12_falls_53 : decode cX12_falls 53 = .ok (.iload 4, 2) := by decide +kernel
theorem dX12_falls_55 : decode cX12_falls 55 = .ok (.bipush 10, 2) := by decide +kernel
theorem dX12_falls_57 : decode cX12_falls 57 = .ok (.irem, 1) := by decide +kernel
theorem dX12_falls_58 : decode cX12_falls 58 = .ok (.bipush 9, 2) := by decide +kernel
theorem dX12_falls_60 : decode cX12_falls 60 = .ok (.if_icmp .ne 7, 3) := by decide +kernel
theorem dX12_falls_63 : decode cX12_falls 63 = .ok (.iconst 1, 1) := by decide +kernel
theorem dX12_falls_64 : decode cX12_falls 64 = .ok (.goto 4, 3) := by decide +kernel
theorem dX12_falls_67 : decode cX12_falls 67 = .ok (.iconst 0, 1) := by decide +kernel
theorem dX12_falls_68 : decode cX12_falls 68 = .ok (.iadd, 1) := by decide +kernel
theorem dX12_falls_69 : decode cX12_falls 69 = .ok (.istore_n 3, 1) := by decide +kernel
theorem dX12_falls_70 : decode cX12_falls 70 = .ok (.iload_n 3, 1) := by decide +kernel
theorem dX12_falls_71 : decode cX12_falls 71 = .ok (.bipush 100, 2) := by decide +kernel
theorem dX12_falls_73 : decode cX12_falls 73 = .ok (.if_icmp .ne 6, 3) := by decide +kernel
theorem dX12_falls_76 : decode cX12_falls 76 = .ok (.iload 4, 2) := by decide +kernel
theorem dX12_falls_78 : decode cX12_falls 78 = .ok (.ireturn, 1) := by decide +kernel
theorem dX12_falls_79 : decode cX12_falls 79 = .ok (.iinc 4 1, 3) := by decide +kernel
theorem dX12_falls_82 : decode cX12_falls 82 = .ok (.goto (-44), 3) := by decide +kernel
theorem dX12_falls_85 : decode cX12_falls 85 = .ok (.bipush (-2), 2) := by decide +kernel
theorem dX12_falls_87 : decode cX12_falls 87 = .ok (.ireturn, 1) := by decide +kernel
theorem dX12_farm_0 : decode cX12_farm 0 = .ok (.aload_n 0, 1) := by decide +kernel
theorem dX12_farm_1 : decode cX12_farm 1 = .ok (.iload_n 1, 1) := by decide +kernel
theorem dX12_farm_2 : decode cX12_farm 2 = .ok (.invokevirtual 325, 3) := by decide +kernel
theorem dX12_farm_5 : decode cX12_farm 5 = .ok (.ifCond .eq 15, 3) := by decide +kernel
theorem dX12_farm_8 : decode cX12_farm 8 = .ok (.iload_n 2, 1) := by decide +kernel
theorem dX12_farm_9 : decode cX12_farm 9 = .ok (.i2l, 1) := by decide +kernel
theorem dX12_farm_10 : decode cX12_farm 10 = .ok (.lconst 0, 1) := by decide +kernel
theorem dX12_farm_11 : decode cX12_farm 11 = .ok (.ldc2_w 323, 3) := by decide +kernel
theorem dX12_farm_14 : decode cX12_farm 14 = .ok (.invokestatic 121, 3) := by decide +kernel
theorem dX12_farm_17 : decode cX12_farm 17 = .ok (.ifCond .ne 6, 3) := by decide +kernel
theorem dX12_farm_20 : decode cX12_farm 20 = .ok (.bipush (-2), 2) := by decide +kernel
theorem dX12_farm_22 : decode cX12_farm 22 = .ok (.ireturn, 1) := by decide +kernel
theorem dX12_farm_23 : decode cX12_farm 23 = .ok (.iload_n 2, 1) := by decide +kernel
theorem dX12_farm_24 : decode cX12_farm 24 = .ok (.iconst 2, 1) := by decide +kernel
theorem dX12_farm_25 : decode cX12_farm 25 = .ok (.if_icmp .ge 17, 3) := by decide +kernel
theorem dX12_farm_28 : decode cX12_farm 28 = .ok (.aload_n 0, 1) := by decide +kernel
theorem dX12_farm_29 : decode cX12_farm 29 = .ok (.getfield 39, 3) := by decide +kernel
theorem dX12_farm_32 : decode cX12_farm 32 = .ok (.bipush 114, 2) := by decide +kernel
theorem dX12_farm_34 : decode cX12_farm 34 = .ok (.iconst 2, 1) := by decide +kernel
theorem dX12_farm_35 : decode cX12_farm 35 = .ok (.iload_n 1, 1) := by decide +kernel
theorem dX12_farm_36 : decode cX12_farm 36 = .ok (.imul, 1) := by decide +kernel
theorem dX12_farm_37 : decode cX12_farm 37 = .ok (.iadd, 1) := by decide +kernel
theorem dX12_farm_38 : decode cX12_farm 38 = .ok (.iload_n 2, 1) := by decide +kernel
theorem dX12_farm_39 : decode cX12_farm 39 = .ok (.iadd, 1) := by decide +kernel
theorem dX12_farm_40 : decode cX12_farm 40 = .ok (.iaload, 1) := by decide +kernel
theorem dX12_farm_41 : decode cX12_farm 41 = .ok (.ireturn, 1) := by decide +kernel
theorem dX12_farm_42 : decode cX12_farm 42 = .ok (.iload_n 2, 1) := by decide +kernel
theorem dX12_farm_43 : decode cX12_farm 43 = .ok (.iconst 2, 1) := by decide +kernel
theorem dX12_farm_44 : decode cX12_farm 44 = .ok (.if_icmp .ne 13, 3) := by decide +kernel
theorem dX12_farm_47 : decode cX12_farm 47 = .ok (.aload_n 0, 1) := by decide +kernel
theorem dX12_farm_48 : decode cX12_farm 48 = .ok (.getfield 39, 3) := by decide +kernel
theorem dX12_farm_51 : decode cX12_farm 51 = .ok (.bipush 34, 2) := by decide +kernel
theorem dX12_farm_53 : decode cX12_farm 53 = .ok (.iload_n 1, 1) := by decide +kernel
theorem dX12_farm_54 : decode cX12_farm 54 = .ok (.iadd, 1) := by decide +kernel
theorem dX12_farm_55 : decode cX12_farm 55 = .ok (.iaload, 1) := by decide +kernel
theorem dX12_farm_56 : decode cX12_farm 56 = .ok (.ireturn, 1) := by decide +kernel
theorem dX12_farm_57 : decode cX12_farm 57 = .ok (.aload_n 0, 1) := by decide +kernel
theorem dX12_farm_58 : decode cX12_farm 58 = .ok (.iconst 0, 1) := by decide +kernel
theorem dX12_farm_59 : decode cX12_farm 59 = .ok (.iload_n 1, 1) := by decide +kernel
theorem dX12_farm_60 : decode cX12_farm 60 = .ok (.iconst 1, 1) := by decide +kernel
theorem dX12_farm_61 : decode cX12_farm 61 = .ok (.iadd, 1) := by decide +kernel
theorem dX12_farm_62 : decode cX12_farm 62 = .ok (.invokevirtual 317, 3) := by decide +kernel
theorem dX12_farm_65 : decode cX12_farm 65 = .ok (.sipush 999, 3) := by decide +kernel
theorem dX12_farm_68 : decode cX12_farm 68 = .ok (.if_icmp .lt 7, 3) := by decide +kernel
theorem dX12_farm_71 : decode cX12_farm 71 = .ok (.iconst (-1), 1) := by decide +kernel
theorem dX12_farm_72 : decode cX12_farm 72 = .ok (.goto 11, 3) := by decide +kernel
theorem dX12_farm_75 : decode cX12_farm 75 = .ok (.aload_n 0, 1) := by decide +kernel
theorem dX12_farm_76 : decode cX12_farm 76 = .ok (.iconst 0, 1) := by decide +kernel
theorem dX12_farm_77 : decode cX12_farm 77 = .ok (.iload_n 1, 1) := by decide +kernel
theorem dX12_farm_78 : decode cX12_farm 78 = .ok (.iconst 1, 1) := by decide +kernel
theorem dX12_farm_79 : decode cX12_farm 79 = .ok (.iadd, 1) := by decide +kernel
theorem dX12_farm_80 : decode cX12_farm 80 = .ok (.invokevirtual 317, 3) := by decide +kernel
theorem dX12_farm_83 : decode cX12_farm 83 = .ok (.ireturn, 1) := by decide +kernel
theorem dX12_four_0 : decode cX12_four 0 = .ok (.bipush 24, 2) := by decide +kernel
theorem dX12_four_2 : decode cX12_four 2 = .ok (.istore_n 2, 1) := by decide +kernel
theorem dX12_four_3 : decode cX12_four 3 = .ok (.iload_n 2, 1) := by decide +kernel
theorem dX12_four_4 : decode cX12_four 4 = .ok (.ifCond .lt 32, 3) := by decide +kernel
theorem dX12_four_7 : decode cX12_four 7 = .ok (.aload_n 0, 1) := by decide +kernel
theorem dX12_four_8 : decode cX12_four 8 = .ok (.getfield 7, 3) := by decide +kernel
theorem dX12_four_11 : decode cX12_four 11 = .ok (.aload_n 0, 1) := by decide +kernel
theorem dX12_four_12 : decode cX12_four 12 = .ok (.getfield 83, 3) := by decide +kernel
theorem dX12_four_15 : decode cX12_four 15 = .ok (.iload_n 1, 1) := by decide +kernel
theorem dX12_four_16 : decode cX12_four 16 = .ok (.iload_n 2, 1) := by decide +kernel
theorem dX12_four_17 : decode cX12_four 17 = .ok (.ishr, 1) := by decide +kernel
theorem dX12_four_18 : decode cX12_four 18 = .ok (.i2b, 1) := by decide +kernel
theorem dX12_four_19 : decode cX12_four 19 = .ok (.bastore, 1) := by decide +kernel
theorem dX12_four_20 : decode cX12_four 20 = .ok (.aload_n 0, 1) := by decide +kernel
theorem dX12_four_21 : decode cX12_four 21 = .ok (.dup, 1) := by decide +kernel
theorem dX12_four_22 : decode cX12_four 22 = .ok (.getfield 83, 3) := by decide +kernel
theorem dX12_four_25 : decode cX12_four 25 = .ok (.iconst 1, 1) := by decide +kernel
theorem dX12_four_26 : decode cX12_four 26 = .ok (.iadd, 1) := by decide +kernel
theorem dX12_four_27 : decode cX12_four 27 = .ok (.putfield 83, 3) := by decide +kernel
theorem dX12_four_30 : decode cX12_four 30 = .ok (.iinc 2 (-8), 3) := by decide +kernel
theorem dX12_four_33 : decode cX12_four 33 = .ok (.goto (-30), 3) := by decide +kernel
theorem dX12_four_36 : decode cX12_four 36 = .ok (.return_, 1) := by decide +kernel
theorem dX12_takesWord_0 : decode cX12_takesWord 0 = .ok (.aload_n 0, 1) := by decide +kernel
theorem dX12_takesWord_1 : decode cX12_takesWord 1 = .ok (.lload_n 1, 1) := by decide +kernel
theorem dX12_takesWord_2 : decode cX12_takesWord 2 = .ok (.invokevirtual 104, 3) := by decide +kernel
theorem dX12_takesWord_5 : decode cX12_takesWord 5 = .ok (.ifCond .ne 5, 3) := by decide +kernel
theorem dX12_takesWord_8 : decode cX12_takesWord 8 = .ok (.iconst 0, 1) := by decide +kernel
theorem dX12_takesWord_9 : decode cX12_takesWord 9 = .ok (.ireturn, 1) := by decide +kernel
theorem dX12_takesWord_10 : decode cX12_takesWord 10 = .ok (.aload_n 0, 1) := by decide +kernel
theorem dX12_takesWord_11 : decode cX12_takesWord 11 = .ok (.invokevirtual 108, 3) := by decide +kernel
theorem dX12_takesWord_14 : decode cX12_takesWord 14 = .ok (.iconst 1, 1) := by decide +kernel
theorem dX12_takesWord_15 : decode cX12_takesWord 15 = .ok (.ireturn, 1) := by decide +kernel
theorem iv_63_305 {B : Nat} : aiv B 63 (305 : Int32).toInt.toNat = (0, 10) := by rw [show (305 : Int32).toInt.toNat = 305 by decide]; rfl
set_option maxHeartbeats 4000000 in
set_option maxRecDepth 100000 in
theorem t_X12_takesWord (l : Launch) (dC : Nat → ClassId) (dI : Nat → Nat → Nat) (tys : List (ClassId × FieldType)) (κ : tK) (B : Nat) (ws : va_W) (hT : Ty κ tys B ws) (a0 : Nat) (k_a0 : κ a0 = some 12) (a1 : Int64) (sz : Nat) : Met l yX12_takesWord (ws_u yX12_takesWord cX12_takesWord 3 (some .boolean)) ({ frames := 2, cells := 0, slots := 0, locals := 46 }) (va_Pc [.ref a0, .long a1] (cPre (dC, dI) tys ws sz)) (va_Qi (fun (r : Int32) (w : va_W) => 0 ≤ r.toInt ∧ r.toInt ≤ 1 ∧ Ty κ tys B w ∧ Sm [(12, 8)] [] κ ws w) (fun w t => cPost (dC, dI) tys w (va_A ws sz) t) (va_A ws sz)) 0 0 (va_A ws sz) := by
  refine Met.ofW (cc := cX12_takesWord) (maxL := 3) (ret := (some .boolean)) (by decide) rfl ?_
  intro p e s m args below meth c s₁ B0 hml hv
  obtain ⟨rfl, hsz, hP, hK, hD0, hE⟩ := hv
  have hx := B0.exec
  have hb := B0.bytes
  have hr := B0.returns
  have hts0 := atoms_spec (ws := ws_u yX12_takesWord cX12_takesWord 3 (some .boolean)) B0.pre
  have hts : ∀ w ∈ gT, w.before _ s = true := fun w h => hts0 w (List.mem_cons_of_mem _ h)
  have hown : s.vm.findClass RX12 = some m.cls := findClass_of_methodNamed B0.named
  have hlocks := B0.notSynchronized
  subst hsz
  have hD := hD0.self (sz := s.heap.size)
  generalize hAe : va_A ws s.heap.size = A at hD ⊢
  have hA : ∀ q : Nat, s.heap.size ≤ q → A q := fun q h => by rw [← hAe]; exact Or.inr h
  have hw : tW (dC, dI) tys κ B A s ws s.heap [] := ⟨hK, hP, hD, va_S.rf, hT⟩
  have hM : Sm [(12, 8)] [] κ ws ws := Sm.rf
  clear hP hK hD hD0 hts0
  have hl := lv_entry ([.ref a0, .long a1]) (n := 3) (Nat.le_of_ble_eq_true rfl)
  rw [lg_entry_eq]
  generalize (lg_sl ([.ref a0, .long a1]) ++ List.replicate (3 - (lg_sl ([.ref a0, .long a1])).length) Slot.unset).toArray = ls at hl ⊢
  have hl : lv_has ls 3 [(0, .ref a0), (1, .long a1)] := hl
  refine t_start (fun QQ hQ => ?_)
  refine lv_aload_n hx hb dX12_takesWord_0 rfl (lv_at hl 0 rfl) ?_
  refine lv_lload_n hx hb dX12_takesWord_1 rfl (lv_at hl 1 rfl) ?_
  obtain ⟨u_v2q0, q_v2q0, f_a0_X12_8⟩ := t_peek (k := 8) hw.2.2.2.2 k_a0 rfl (by decide)
  obtain ⟨v2q0, rfl, l_v2q0, h_v2q0⟩ := q_v2q0.geti (lo := 0) (hi := 401) rfl
  obtain ⟨u_v2q1, q_v2q1, f_a0_X12_1⟩ := t_peek (k := 1) hw.2.2.2.2 k_a0 rfl (by decide)
  obtain ⟨v2q1, rfl, l_v2q1, h_v2q1⟩ := q_v2q1.geti (lo := 0) (hi := 400) rfl
  refine t_calli (va_runV (As := [.long a1]) (rest := []) ⟨hx, hb, hml, hown, hts⟩ (t_X12_isWord l dC dI tys κ B ws hw.2.2.2.2 a0 k_a0 a1 v2q0 (by omega) (by omega) f_a0_X12_8 v2q1 (by omega) (by omega) f_a0_X12_1 s.heap.size) (cwV 1 hts (gUV tw_1273 tw_1275 ts_3_5 tw_13 tw_1276) rfl rfl rfl (by decide +kernel) ⟨(Nat.le_of_ble_eq_true rfl), (Nat.le_of_ble_eq_true rfl)⟩) ⟨cPre.blind, t_recv hw (ci := 12) k_a0 rfl rfl, cPre.use hw.2.1 hw.1 hw.2.2.1 hE⟩ rfl rfl hl.1 rfl (lv_room (Nat.le_of_ble_eq_true rfl)) dX12_takesWord_2 ⟨(Nat.le_of_ble_eq_true rfl), (Nat.le_of_ble_eq_true rfl)⟩) hw hA (fun _ _ h => h.2.2.1) (fun v2 w_1 H locs hp hw => ?_)
  obtain ⟨l_v2, h_v2, _, hm, ⟨v2n, l_v2n, h_v2n, f_a0_X12_8, y_v2⟩⟩ := hp
  have hM := hM.trans hm (by decide) (by decide)
  have f_a0_X12_1 := hm.1 _ _ _ _ f_a0_X12_1 (by decide)
  refine lv_if_ne (tgt := 10) hx hb dX12_takesWord_5 (by decide) (fun c_5 => ?_) (fun c_5 => ?_)
  · simp only [fa_lt, fa_le, fa_eq, li_0] at c_5
    refine lv_aload_n hx hb dX12_takesWord_10 rfl (lv_at hl 0 rfl) ?_
    refine t_callv (va_runV (As := []) (rest := []) ⟨hx, hb, hml, hown, hts⟩ (t_X12_passWord l dC dI tys κ B w_1 hw.2.2.2.2 a0 k_a0 v2n (by omega) (by omega) f_a0_X12_8 v2q1 (by omega) (by omega) f_a0_X12_1 H.size) (cwV 0 hts (gUV tw_1300 tw_1302 ts_3_10 tw_13 tw_1303) rfl rfl rfl (by decide +kernel) ⟨(Nat.le_of_ble_eq_true rfl), (Nat.le_of_ble_eq_true rfl)⟩) ⟨cPre.blind, t_recv hw (ci := 12) k_a0 rfl rfl, cPre.use hw.2.1 hw.1 hw.2.2.1 hE⟩ rfl rfl hl.1 rfl (lv_room (Nat.le_of_ble_eq_true rfl)) dX12_takesWord_11 ⟨(Nat.le_of_ble_eq_true rfl), (Nat.le_of_ble_eq_true rfl)⟩) hw hA (fun _ h => h.1) (fun w_2 H locs hp hw => ?_)
    obtain ⟨_, hm, ⟨v11n, l_v11n, h_v11n, f_a0_X12_8, y_v11⟩⟩ := hp
    have hM := hM.trans hm (by decide) (by decide)
    have f_a0_X12_1 := hm.1 _ _ _ _ f_a0_X12_1 (by decide)
    refine lv_iconst (v := 1) hx hb dX12_takesWord_14 (by decide) ?_
    rw [hQ]
    refine W.widen (k := 0) (n := 0) (Nat.le_refl _) (Nat.le_refl _) ?_
    exact W.zret (v := 1) hx hb hr rfl (fun t ht hW => ⟨⟨1, w_2, rfl, ⟨(by decide), (by decide), hw.2.2.2.2, hM⟩, by rw [ht]; exact hw.2.1, va_K.moved hW.alike hw.1, hw.2.2.1⟩, hw.2.2.2.1.F ht⟩) hw.2.2.2.1.2.2 dX12_takesWord_15
  · simp only [fa_lt, fa_le, fa_eq, li_0] at c_5
    refine lv_iconst (v := 0) hx hb dX12_takesWord_8 (by decide) ?_
    rw [hQ]
    refine W.widen (k := 0) (n := 0) (Nat.le_refl _) (Nat.le_refl _) ?_
    exact W.zret (v := 0) hx hb hr rfl (fun t ht hW => ⟨⟨0, w_1, rfl, ⟨(by decide), (by decide), hw.2.2.2.2, hM⟩, by rw [ht]; exact hw.2.1, va_K.moved hW.alike hw.1, hw.2.2.1⟩, hw.2.2.2.1.F ht⟩) hw.2.2.2.1.2.2 dX12_takesWord_9
set_option maxHeartbeats 4000000 in
set_option maxRecDepth 100000 in
theorem t_X12_count (l : Launch) (dC : Nat → ClassId) (dI : Nat → Nat → Nat) (tys : List (ClassId × FieldType)) (κ : tK) (B : Nat) (ws : va_W) (hT : Ty κ tys B ws) (a0 : Nat) (k_a0 : κ a0 = some 12) (a1 : Int32) (sz : Nat) : Met l yX12_count (ws_u yX12_count cX12_count 4 (some .int)) ({ frames := 2, cells := 0, slots := 0, locals := 43 }) (va_Pc [.ref a0, .int a1] (cPre (dC, dI) tys ws sz)) (va_Qi (fun (r : Int32) (w : va_W) => Ty κ tys B w ∧ Sm [] [] κ ws w) (fun w t => cPost (dC, dI) tys w (va_A ws sz) t) (va_A ws sz)) 0 0 (va_A ws sz) := by
  refine Met.ofW (cc := cX12_count) (maxL := 4) (ret := (some .int)) (by decide) rfl ?_
  intro p e s m args below meth c s₁ B0 hml hv
  obtain ⟨rfl, hsz, hP, hK, hD0, hE⟩ := hv
  have hx := B0.exec
  have hb := B0.bytes
  have hr := B0.returns
  have hts0 := atoms_spec (ws := ws_u yX12_count cX12_count 4 (some .int)) B0.pre
  have hts : ∀ w ∈ gT, w.before _ s = true := fun w h => hts0 w (List.mem_cons_of_mem _ h)
  have hown : s.vm.findClass RX12 = some m.cls := findClass_of_methodNamed B0.named
  have hlocks := B0.notSynchronized
  subst hsz
  have hD := hD0.self (sz := s.heap.size)
  generalize hAe : va_A ws s.heap.size = A at hD ⊢
  have hA : ∀ q : Nat, s.heap.size ≤ q → A q := fun q h => by rw [← hAe]; exact Or.inr h
  have hw : tW (dC, dI) tys κ B A s ws s.heap [] := ⟨hK, hP, hD, va_S.rf, hT⟩
  have hM : Sm [] [] κ ws ws := Sm.rf
  clear hP hK hD hD0 hts0
  have l_a1 := i32_lo a1
  have h_a1 := i32_hi a1
  have hl := lv_entry ([.ref a0, .int a1]) (n := 4) (Nat.le_of_ble_eq_true rfl)
  rw [lg_entry_eq]
  generalize (lg_sl ([.ref a0, .int a1]) ++ List.replicate (4 - (lg_sl ([.ref a0, .int a1])).length) Slot.unset).toArray = ls at hl ⊢
  have hl : lv_has ls 4 [(0, .ref a0), (1, .int a1)] := hl
  refine t_start (fun QQ hQ => ?_)
  refine lv_iconst (v := 0) hx hb dX12_count_0 (by decide) ?_
  refine lv_istore_n (lv' := [(2, .int 0), (0, .ref a0), (1, .int a1)]) hx hb dX12_count_1 rfl hl (by decide) rfl (fun ls hl => ?_)
  refine lv_iload_n hx hb dX12_count_2 rfl (lv_at hl 2 rfl) ?_
  rcases Classical.em (a1.toInt = 0) with c_3_0 | c_3_0
  · refine lv_tableIn (tgt := 96) hx hb dX12_count_3 (by omega) (by omega) (by rw [c_3_0]; rfl) (by decide) ?_
    refine lv_aload_n hx hb dX12_count_96 rfl (lv_at hl 1 rfl) ?_
    refine t_getr (k1 := 63) (ci := 12) (C := RX12) (T := TX12) (N := 38) hx hb hts iX12 hown hw k_a0 rfl rfl rfl 20 (by decide) (hts _ tw_1145) (fun _ h9 => h9) dX12_count_97 rfl (fun v97 k_v97 f_a0_X12_20 => ?_)
    refine lv_iload_n hx hb dX12_count_100 rfl (lv_at hl 2 rfl) ?_
    refine lv_iconst (v := 1) hx hb dX12_count_101 (by decide) ?_
    refine lv_iadd hx hb dX12_count_102 ?_
    refine lv_topi (fun v102 e_v102 => ?_)
    have e_v102 : v102.toInt = a1.toInt + 1 := ad_i e_v102 rfl li_1 (by omega) (by omega)
    refine t_iald hx hb hw k_v97 rfl rfl (by omega) (show v102.toInt < 306 by omega) dX12_count_103 (fun v103 r_v103 s_v103 f_v97_M_said_1 => ?_)
    have l_v103 := i32_lo v103
    have h_v103 := i32_hi v103
    rw [hQ]
    refine W.widen (k := 0) (n := 0) (Nat.le_refl _) (Nat.le_refl _) ?_
    exact W.iret (v := v103) hx hb hr (fun t ht hW => ⟨⟨v103, ws, rfl, ⟨hw.2.2.2.2, hM⟩, by rw [ht]; exact hw.2.1, va_K.moved hW.alike hw.1, hw.2.2.1⟩, hw.2.2.2.1.F ht⟩) hw.2.2.2.1.2.2 dX12_count_104
  rcases Classical.em (a1.toInt = 1) with c_3_1 | c_3_1
  · refine lv_tableIn (tgt := 96) hx hb dX12_count_3 (by omega) (by omega) (by rw [c_3_1]; rfl) (by decide) ?_
    refine lv_aload_n hx hb dX12_count_96 rfl (lv_at hl 1 rfl) ?_
    refine t_getr (k1 := 63) (ci := 12) (C := RX12) (T := TX12) (N := 38) hx hb hts iX12 hown hw k_a0 rfl rfl rfl 20 (by decide) (hts _ tw_1145) (fun _ h9 => h9) dX12_count_97 rfl (fun v97 k_v97 f_a0_X12_20 => ?_)
    refine lv_iload_n hx hb dX12_count_100 rfl (lv_at hl 2 rfl) ?_
    refine lv_iconst (v := 1) hx hb dX12_count_101 (by decide) ?_
    refine lv_iadd hx hb dX12_count_102 ?_
    refine lv_topi (fun v102 e_v102 => ?_)
    have e_v102 : v102.toInt = a1.toInt + 1 := ad_i e_v102 rfl li_1 (by omega) (by omega)
    refine t_iald hx hb hw k_v97 rfl rfl (by omega) (show v102.toInt < 306 by omega) dX12_count_103 (fun v103 r_v103 s_v103 f_v97_M_said_2 => ?_)
    have l_v103 := i32_lo v103
    have h_v103 := i32_hi v103
    rw [hQ]
    refine W.widen (k := 0) (n := 0) (Nat.le_refl _) (Nat.le_refl _) ?_
    exact W.iret (v := v103) hx hb hr (fun t ht hW => ⟨⟨v103, ws, rfl, ⟨hw.2.2.2.2, hM⟩, by rw [ht]; exact hw.2.1, va_K.moved hW.alike hw.1, hw.2.2.1⟩, hw.2.2.2.1.F ht⟩) hw.2.2.2.1.2.2 dX12_count_104
  rcases Classical.em (a1.toInt = 2) with c_3_2 | c_3_2
  · refine lv_tableIn (tgt := 96) hx hb dX12_count_3 (by omega) (by omega) (by rw [c_3_2]; rfl) (by decide) ?_
    refine lv_aload_n hx hb dX12_count_96 rfl (lv_at hl 1 rfl) ?_
    refine t_getr (k1 := 63) (ci := 12) (C := RX12) (T := TX12) (N := 38) hx hb hts iX12 hown hw k_a0 rfl rfl rfl 20 (by decide) (hts _ tw_1145) (fun _ h9 => h9) dX12_count_97 rfl (fun v97 k_v97 f_a0_X12_20 => ?_)
    refine lv_iload_n hx hb dX12_count_100 rfl (lv_at hl 2 rfl) ?_
    refine lv_iconst (v := 1) hx hb dX12_count_101 (by decide) ?_
    refine lv_iadd hx hb dX12_count_102 ?_
    refine lv_topi (fun v102 e_v102 => ?_)
    have e_v102 : v102.toInt = a1.toInt + 1 := ad_i e_v102 rfl li_1 (by omega) (by omega)
    refine t_iald hx hb hw k_v97 rfl rfl (by omega) (show v102.toInt < 306 by omega) dX12_count_103 (fun v103 r_v103 s_v103 f_v97_M_said_3 => ?_)
    have l_v103 := i32_lo v103
    have h_v103 := i32_hi v103
    rw [hQ]
    refine W.widen (k := 0) (n := 0) (Nat.le_refl _) (Nat.le_refl _) ?_
    exact W.iret (v := v103) hx hb hr (fun t ht hW => ⟨⟨v103, ws, rfl, ⟨hw.2.2.2.2, hM⟩, by rw [ht]; exact hw.2.1, va_K.moved hW.alike hw.1, hw.2.2.1⟩, hw.2.2.2.1.F ht⟩) hw.2.2.2.1.2.2 dX12_count_104
  rcases Classical.em (a1.toInt = 3) with c_3_3 | c_3_3
  · refine lv_tableIn (tgt := 96) hx hb dX12_count_3 (by omega) (by omega) (by rw [c_3_3]; rfl) (by decide) ?_
    refine lv_aload_n hx hb dX12_count_96 rfl (lv_at hl 1 rfl) ?_
    refine t_getr (k1 := 63) (ci := 12) (C := RX12) (T := TX12) (N := 38) hx hb hts iX12 hown hw k_a0 rfl rfl rfl 20 (by decide) (hts _ tw_1145) (fun _ h9 => h9) dX12_count_97 rfl (fun v97 k_v97 f_a0_X12_20 => ?_)
    refine lv_iload_n hx hb dX12_count_100 rfl (lv_at hl 2 rfl) ?_
    refine lv_iconst (v := 1) hx hb dX12_count_101 (by decide) ?_
    refine lv_iadd hx hb dX12_count_102 ?_
    refine lv_topi (fun v102 e_v102 => ?_)
    have e_v102 : v102.toInt = a1.toInt + 1 := ad_i e_v102 rfl li_1 (by omega) (by omega)
    refine t_iald hx hb hw k_v97 rfl rfl (by omega) (show v102.toInt < 306 by omega) dX12_count_103 (fun v103 r_v103 s_v103 f_v97_M_said_4 => ?_)
    have l_v103 := i32_lo v103
    have h_v103 := i32_hi v103
    rw [hQ]
    refine W.widen (k := 0) (n := 0) (Nat.le_refl _) (Nat.le_refl _) ?_
    exact W.iret (v := v103) hx hb hr (fun t ht hW => ⟨⟨v103, ws, rfl, ⟨hw.2.2.2.2, hM⟩, by rw [ht]; exact hw.2.1, va_K.moved hW.alike hw.1, hw.2.2.1⟩, hw.2.2.2.1.F ht⟩) hw.2.2.2.1.2.2 dX12_count_104
  rcases Classical.em (a1.toInt = 4) with c_3_4 | c_3_4
  · refine lv_tableIn (tgt := 96) hx hb dX12_count_3 (by omega) (by omega) (by rw [c_3_4]; rfl) (by decide) ?_
    refine lv_aload_n hx hb dX12_count_96 rfl (lv_at hl 1 rfl) ?_
    refine t_getr (k1 := 63) (ci := 12) (C := RX12) (T := TX12) (N := 38) hx hb hts iX12 hown hw k_a0 rfl rfl rfl 20 (by decide) (hts _ tw_1145) (fun _ h9 => h9) dX12_count_97 rfl (fun v97 k_v97 f_a0_X12_20 => ?_)
    refine lv_iload_n hx hb dX12_count_100 rfl (lv_at hl 2 rfl) ?_
    refine lv_iconst (v := 1) hx hb dX12_count_101 (by decide) ?_
    refine lv_iadd hx hb dX12_count_102 ?_
    refine lv_topi (fun v102 e_v102 => ?_)
    have e_v102 : v102.toInt = a1.toInt + 1 := ad_i e_v102 rfl li_1 (by omega) (by omega)
    refine t_iald hx hb hw k_v97 rfl rfl (by omega) (show v102.toInt < 306 by omega) dX12_count_103 (fun v103 r_v103 s_v103 f_v97_M_said_5 => ?_)
    have l_v103 := i32_lo v103
    have h_v103 := i32_hi v103
    rw [hQ]
    refine W.widen (k := 0) (n := 0) (Nat.le_refl _) (Nat.le_refl _) ?_
    exact W.iret (v := v103) hx hb hr (fun t ht hW => ⟨⟨v103, ws, rfl, ⟨hw.2.2.2.2, hM⟩, by rw [ht]; exact hw.2.1, va_K.moved hW.alike hw.1, hw.2.2.1⟩, hw.2.2.2.1.F ht⟩) hw.2.2.2.1.2.2 dX12_count_104
  rcases Classical.em (a1.toInt = 5) with c_3_5 | c_3_5
  · refine lv_tableIn (tgt := 105) hx hb dX12_count_3 (by omega) (by omega) (by rw [c_3_5]; rfl) (by decide) ?_
    refine lv_aload_n hx hb dX12_count_105 rfl (lv_at hl 1 rfl) ?_
    refine t_geti (ci := 12) (C := RX12) (T := TX12) (N := 38) hx hb hts iX12 hown hw k_a0 rfl rfl rfl 2 (by decide) (hts _ tw_1127) (fun _ h9 => h9) dX12_count_106 rfl (fun v106 l_v106 h_v106 f_a0_X12_2 => ?_)
    have l_v106 : 0 ≤ v106.toInt := l_v106
    have h_v106 : v106.toInt ≤ 6 := h_v106
    rw [hQ]
    refine W.widen (k := 0) (n := 0) (Nat.le_refl _) (Nat.le_refl _) ?_
    exact W.iret (v := v106) hx hb hr (fun t ht hW => ⟨⟨v106, ws, rfl, ⟨hw.2.2.2.2, hM⟩, by rw [ht]; exact hw.2.1, va_K.moved hW.alike hw.1, hw.2.2.1⟩, hw.2.2.2.1.F ht⟩) hw.2.2.2.1.2.2 dX12_count_109
  rcases Classical.em (a1.toInt = 6) with c_3_6 | c_3_6
  · refine lv_tableIn (tgt := 110) hx hb dX12_count_3 (by omega) (by omega) (by rw [c_3_6]; rfl) (by decide) ?_
    refine lv_aload_n hx hb dX12_count_110 rfl (lv_at hl 1 rfl) ?_
    refine t_geti (ci := 12) (C := RX12) (T := TX12) (N := 38) hx hb hts iX12 hown hw k_a0 rfl rfl rfl 21 (by decide) (hts _ tw_1146) (fun _ h9 => h9) dX12_count_111 rfl (fun v111 l_v111 h_v111 f_a0_X12_21 => ?_)
    have l_v111 : (-1) ≤ v111.toInt := l_v111
    have h_v111 : v111.toInt ≤ 5 := h_v111
    rw [hQ]
    refine W.widen (k := 0) (n := 0) (Nat.le_refl _) (Nat.le_refl _) ?_
    exact W.iret (v := v111) hx hb hr (fun t ht hW => ⟨⟨v111, ws, rfl, ⟨hw.2.2.2.2, hM⟩, by rw [ht]; exact hw.2.1, va_K.moved hW.alike hw.1, hw.2.2.1⟩, hw.2.2.2.1.F ht⟩) hw.2.2.2.1.2.2 dX12_count_114
  rcases Classical.em (a1.toInt = 7) with c_3_7 | c_3_7
  · refine lv_tableIn (tgt := 115) hx hb dX12_count_3 (by omega) (by omega) (by rw [c_3_7]; rfl) (by decide) ?_
    refine lv_aload_n hx hb dX12_count_115 rfl (lv_at hl 1 rfl) ?_
    refine t_getr (k1 := 63) (ci := 12) (C := RX12) (T := TX12) (N := 38) hx hb hts iX12 hown hw k_a0 rfl rfl rfl 20 (by decide) (hts _ tw_1145) (fun _ h9 => h9) dX12_count_116 rfl (fun v116 k_v116 f_a0_X12_20 => ?_)
    refine lv_bipush (v := 10) hx hb dX12_count_119 (by decide) ?_
    refine t_iald hx hb hw k_v116 rfl rfl (by decide) (by decide) dX12_count_121 (fun v121 r_v121 s_v121 f_v116_M_said_10 => ?_)
    have l_v121 : 0 ≤ v121.toInt := by rw [iv_63_10] at r_v121; exact r_v121
    have h_v121 : v121.toInt ≤ 1999 := by rw [iv_63_10] at s_v121; exact s_v121
    rw [hQ]
    refine W.widen (k := 0) (n := 0) (Nat.le_refl _) (Nat.le_refl _) ?_
    exact W.iret (v := v121) hx hb hr (fun t ht hW => ⟨⟨v121, ws, rfl, ⟨hw.2.2.2.2, hM⟩, by rw [ht]; exact hw.2.1, va_K.moved hW.alike hw.1, hw.2.2.1⟩, hw.2.2.2.1.F ht⟩) hw.2.2.2.1.2.2 dX12_count_122
  rcases Classical.em (a1.toInt = 8) with c_3_8 | c_3_8
  · refine lv_tableIn (tgt := 123) hx hb dX12_count_3 (by omega) (by omega) (by rw [c_3_8]; rfl) (by decide) ?_
    refine lv_aload_n hx hb dX12_count_123 rfl (lv_at hl 1 rfl) ?_
    refine t_calli (va_runV (As := []) (rest := []) ⟨hx, hb, hml, hown, hts⟩ (t_X12_isChoir l dC dI tys κ B ws hw.2.2.2.2 a0 k_a0 s.heap.size) (cwV 0 hts (gUV tw_1489 tw_1491 ts_5_12 tw_13 tw_1492) rfl rfl rfl (by decide +kernel) ⟨(Nat.le_of_ble_eq_true rfl), (Nat.le_of_ble_eq_true rfl)⟩) ⟨cPre.blind, t_recv hw (ci := 12) k_a0 rfl rfl, cPre.use hw.2.1 hw.1 hw.2.2.1 hE⟩ rfl rfl hl.1 rfl (lv_room (Nat.le_of_ble_eq_true rfl)) dX12_count_124 ⟨(Nat.le_of_ble_eq_true rfl), (Nat.le_of_ble_eq_true rfl)⟩) hw hA (fun _ _ h => h.2.2.1) (fun v124 w_1 H locs hp hw => ?_)
    obtain ⟨l_v124, h_v124, _, hm⟩ := hp
    have hM := hM.trans hm (by decide) (by decide)
    refine lv_if_eq (tgt := 140) hx hb dX12_count_127 (by decide) (fun c_127 => ?_) (fun c_127 => ?_)
    · simp only [fa_lt, fa_le, fa_eq, li_0] at c_127
      refine lv_iconst (v := (-1)) hx hb dX12_count_140 (by decide) ?_
      rw [hQ]
      refine W.widen (k := 0) (n := 0) (Nat.le_refl _) (Nat.le_refl _) ?_
      exact W.iret (v := (-1)) hx hb hr (fun t ht hW => ⟨⟨(-1), w_1, rfl, ⟨hw.2.2.2.2, hM⟩, by rw [ht]; exact hw.2.1, va_K.moved hW.alike hw.1, hw.2.2.1⟩, hw.2.2.2.1.F ht⟩) hw.2.2.2.1.2.2 dX12_count_141
    · simp only [fa_lt, fa_le, fa_eq, li_0] at c_127
      refine lv_aload_n hx hb dX12_count_130 rfl (lv_at hl 1 rfl) ?_
      refine t_getr (k1 := 63) (ci := 12) (C := RX12) (T := TX12) (N := 38) hx hb hts iX12 hown hw k_a0 rfl rfl rfl 20 (by decide) (hts _ tw_1145) (fun _ h9 => h9) dX12_count_131 rfl (fun v131 k_v131 f_a0_X12_20 => ?_)
      refine lv_bipush (v := 11) hx hb dX12_count_134 (by decide) ?_
      refine t_iald hx hb hw k_v131 rfl rfl (by decide) (by decide) dX12_count_136 (fun v136 r_v136 s_v136 f_v131_M_said_11 => ?_)
      have l_v136 : (-1) ≤ v136.toInt := by rw [iv_63_11] at r_v136; exact r_v136
      have h_v136 : v136.toInt ≤ 5 := by rw [iv_63_11] at s_v136; exact s_v136
      refine lv_goto (tgt := 141) hx hb dX12_count_137 (by decide) ?_
      rw [hQ]
      refine W.widen (k := 0) (n := 0) (Nat.le_refl _) (Nat.le_refl _) ?_
      exact W.iret (v := v136) hx hb hr (fun t ht hW => ⟨⟨v136, w_1, rfl, ⟨hw.2.2.2.2, hM⟩, by rw [ht]; exact hw.2.1, va_K.moved hW.alike hw.1, hw.2.2.1⟩, hw.2.2.2.1.F ht⟩) hw.2.2.2.1.2.2 dX12_count_141
  rcases Classical.em (a1.toInt = 9) with c_3_9 | c_3_9
  · refine lv_tableIn (tgt := 142) hx hb dX12_count_3 (by omega) (by omega) (by rw [c_3_9]; rfl) (by decide) ?_
    refine lv_aload_n hx hb dX12_count_142 rfl (lv_at hl 1 rfl) ?_
    refine t_calli (va_runV (As := []) (rest := []) ⟨hx, hb, hml, hown, hts⟩ (t_X12_isChoir l dC dI tys κ B ws hw.2.2.2.2 a0 k_a0 s.heap.size) (cwV 0 hts (gUV tw_1489 tw_1491 ts_5_12 tw_13 tw_1492) rfl rfl rfl (by decide +kernel) ⟨(Nat.le_of_ble_eq_true rfl), (Nat.le_of_ble_eq_true rfl)⟩) ⟨cPre.blind, t_recv hw (ci := 12) k_a0 rfl rfl, cPre.use hw.2.1 hw.1 hw.2.2.1 hE⟩ rfl rfl hl.1 rfl (lv_room (Nat.le_of_ble_eq_true rfl)) dX12_count_143 ⟨(Nat.le_of_ble_eq_true rfl), (Nat.le_of_ble_eq_true rfl)⟩) hw hA (fun _ _ h => h.2.2.1) (fun v143 w_2 H locs hp hw => ?_)
    obtain ⟨l_v143, h_v143, _, hm⟩ := hp
    have hM := hM.trans hm (by decide) (by decide)
    refine lv_if_eq (tgt := 159) hx hb dX12_count_146 (by decide) (fun c_146 => ?_) (fun c_146 => ?_)
    · simp only [fa_lt, fa_le, fa_eq, li_0] at c_146
      refine lv_iconst (v := (-1)) hx hb dX12_count_159 (by decide) ?_
      rw [hQ]
      refine W.widen (k := 0) (n := 0) (Nat.le_refl _) (Nat.le_refl _) ?_
      exact W.iret (v := (-1)) hx hb hr (fun t ht hW => ⟨⟨(-1), w_2, rfl, ⟨hw.2.2.2.2, hM⟩, by rw [ht]; exact hw.2.1, va_K.moved hW.alike hw.1, hw.2.2.1⟩, hw.2.2.2.1.F ht⟩) hw.2.2.2.1.2.2 dX12_count_160
    · simp only [fa_lt, fa_le, fa_eq, li_0] at c_146
      refine lv_aload_n hx hb dX12_count_149 rfl (lv_at hl 1 rfl) ?_
      refine t_getr (k1 := 63) (ci := 12) (C := RX12) (T := TX12) (N := 38) hx hb hts iX12 hown hw k_a0 rfl rfl rfl 20 (by decide) (hts _ tw_1145) (fun _ h9 => h9) dX12_count_150 rfl (fun v150 k_v150 f_a0_X12_20 => ?_)
      refine lv_bipush (v := 12) hx hb dX12_count_153 (by decide) ?_
      refine t_iald hx hb hw k_v150 rfl rfl (by decide) (by decide) dX12_count_155 (fun v155 r_v155 s_v155 f_v150_M_said_12 => ?_)
      have l_v155 := i32_lo v155
      have h_v155 := i32_hi v155
      refine lv_goto (tgt := 160) hx hb dX12_count_156 (by decide) ?_
      rw [hQ]
      refine W.widen (k := 0) (n := 0) (Nat.le_refl _) (Nat.le_refl _) ?_
      exact W.iret (v := v155) hx hb hr (fun t ht hW => ⟨⟨v155, w_2, rfl, ⟨hw.2.2.2.2, hM⟩, by rw [ht]; exact hw.2.1, va_K.moved hW.alike hw.1, hw.2.2.1⟩, hw.2.2.2.1.F ht⟩) hw.2.2.2.1.2.2 dX12_count_160
  rcases Classical.em (a1.toInt = 10) with c_3_10 | c_3_10
  · refine lv_tableIn (tgt := 161) hx hb dX12_count_3 (by omega) (by omega) (by rw [c_3_10]; rfl) (by decide) ?_
    refine lv_aload_n hx hb dX12_count_161 rfl (lv_at hl 1 rfl) ?_
    refine t_getr (k1 := 63) (ci := 12) (C := RX12) (T := TX12) (N := 38) hx hb hts iX12 hown hw k_a0 rfl rfl rfl 20 (by decide) (hts _ tw_1145) (fun _ h9 => h9) dX12_count_162 rfl (fun v162 k_v162 f_a0_X12_20 => ?_)
    refine lv_bipush (v := 13) hx hb dX12_count_165 (by decide) ?_
    refine t_iald hx hb hw k_v162 rfl rfl (by decide) (by decide) dX12_count_167 (fun v167 r_v167 s_v167 f_v162_M_said_13 => ?_)
    have l_v167 := i32_lo v167
    have h_v167 := i32_hi v167
    rw [hQ]
    refine W.widen (k := 0) (n := 0) (Nat.le_refl _) (Nat.le_refl _) ?_
    exact W.iret (v := v167) hx hb hr (fun t ht hW => ⟨⟨v167, ws, rfl, ⟨hw.2.2.2.2, hM⟩, by rw [ht]; exact hw.2.1, va_K.moved hW.alike hw.1, hw.2.2.1⟩, hw.2.2.2.1.F ht⟩) hw.2.2.2.1.2.2 dX12_count_168
  rcases Classical.em (a1.toInt = 11) with c_3_11 | c_3_11
  · refine lv_tableIn (tgt := 169) hx hb dX12_count_3 (by omega) (by omega) (by rw [c_3_11]; rfl) (by decide) ?_
    refine lv_aload_n hx hb dX12_count_169 rfl (lv_at hl 1 rfl) ?_
    refine t_getr (k1 := 63) (ci := 12) (C := RX12) (T := TX12) (N := 38) hx hb hts iX12 hown hw k_a0 rfl rfl rfl 20 (by decide) (hts _ tw_1145) (fun _ h9 => h9) dX12_count_170 rfl (fun v170 k_v170 f_a0_X12_20 => ?_)
    refine lv_bipush (v := 14) hx hb dX12_count_173 (by decide) ?_
    refine t_iald hx hb hw k_v170 rfl rfl (by decide) (by decide) dX12_count_175 (fun v175 r_v175 s_v175 f_v170_M_said_14 => ?_)
    have l_v175 := i32_lo v175
    have h_v175 := i32_hi v175
    rw [hQ]
    refine W.widen (k := 0) (n := 0) (Nat.le_refl _) (Nat.le_refl _) ?_
    exact W.iret (v := v175) hx hb hr (fun t ht hW => ⟨⟨v175, ws, rfl, ⟨hw.2.2.2.2, hM⟩, by rw [ht]; exact hw.2.1, va_K.moved hW.alike hw.1, hw.2.2.1⟩, hw.2.2.2.1.F ht⟩) hw.2.2.2.1.2.2 dX12_count_176
  rcases Classical.em (a1.toInt = 12) with c_3_12 | c_3_12
  · refine lv_tableIn (tgt := 177) hx hb dX12_count_3 (by omega) (by omega) (by rw [c_3_12]; rfl) (by decide) ?_
    refine lv_aload_n hx hb dX12_count_177 rfl (lv_at hl 1 rfl) ?_
    refine t_getr (k1 := 63) (ci := 12) (C := RX12) (T := TX12) (N := 38) hx hb hts iX12 hown hw k_a0 rfl rfl rfl 20 (by decide) (hts _ tw_1145) (fun _ h9 => h9) dX12_count_178 rfl (fun v178 k_v178 f_a0_X12_20 => ?_)
    refine lv_bipush (v := 15) hx hb dX12_count_181 (by decide) ?_
    refine t_iald hx hb hw k_v178 rfl rfl (by decide) (by decide) dX12_count_183 (fun v183 r_v183 s_v183 f_v178_M_said_15 => ?_)
    have l_v183 := i32_lo v183
    have h_v183 := i32_hi v183
    rw [hQ]
    refine W.widen (k := 0) (n := 0) (Nat.le_refl _) (Nat.le_refl _) ?_
    exact W.iret (v := v183) hx hb hr (fun t ht hW => ⟨⟨v183, ws, rfl, ⟨hw.2.2.2.2, hM⟩, by rw [ht]; exact hw.2.1, va_K.moved hW.alike hw.1, hw.2.2.1⟩, hw.2.2.2.1.F ht⟩) hw.2.2.2.1.2.2 dX12_count_184
  rcases Classical.em (a1.toInt = 13) with c_3_13 | c_3_13
  · refine lv_tableIn (tgt := 185) hx hb dX12_count_3 (by omega) (by omega) (by rw [c_3_13]; rfl) (by decide) ?_
    refine lv_aload_n hx hb dX12_count_185 rfl (lv_at hl 1 rfl) ?_
    refine t_calli (va_runV (As := []) (rest := []) ⟨hx, hb, hml, hown, hts⟩ (t_X12_isSnow l dC dI tys κ B ws hw.2.2.2.2 a0 k_a0 s.heap.size) (cwV 0 hts (gUV tw_1556 tw_1558 ts_6_12 tw_13 tw_1559) rfl rfl rfl (by decide +kernel) ⟨(Nat.le_of_ble_eq_true rfl), (Nat.le_of_ble_eq_true rfl)⟩) ⟨cPre.blind, t_recv hw (ci := 12) k_a0 rfl rfl, cPre.use hw.2.1 hw.1 hw.2.2.1 hE⟩ rfl rfl hl.1 rfl (lv_room (Nat.le_of_ble_eq_true rfl)) dX12_count_186 ⟨(Nat.le_of_ble_eq_true rfl), (Nat.le_of_ble_eq_true rfl)⟩) hw hA (fun _ _ h => h.2.2.1) (fun v186 w_3 H locs hp hw => ?_)
    obtain ⟨l_v186, h_v186, _, hm⟩ := hp
    have hM := hM.trans hm (by decide) (by decide)
    refine lv_if_eq (tgt := 196) hx hb dX12_count_189 (by decide) (fun c_189 => ?_) (fun c_189 => ?_)
    · simp only [fa_lt, fa_le, fa_eq, li_0] at c_189
      refine lv_iconst (v := 0) hx hb dX12_count_196 (by decide) ?_
      rw [hQ]
      refine W.widen (k := 0) (n := 0) (Nat.le_refl _) (Nat.le_refl _) ?_
      exact W.iret (v := 0) hx hb hr (fun t ht hW => ⟨⟨0, w_3, rfl, ⟨hw.2.2.2.2, hM⟩, by rw [ht]; exact hw.2.1, va_K.moved hW.alike hw.1, hw.2.2.1⟩, hw.2.2.2.1.F ht⟩) hw.2.2.2.1.2.2 dX12_count_197
    · simp only [fa_lt, fa_le, fa_eq, li_0] at c_189
      refine lv_iconst (v := 1) hx hb dX12_count_192 (by decide) ?_
      refine lv_goto (tgt := 197) hx hb dX12_count_193 (by decide) ?_
      rw [hQ]
      refine W.widen (k := 0) (n := 0) (Nat.le_refl _) (Nat.le_refl _) ?_
      exact W.iret (v := 1) hx hb hr (fun t ht hW => ⟨⟨1, w_3, rfl, ⟨hw.2.2.2.2, hM⟩, by rw [ht]; exact hw.2.1, va_K.moved hW.alike hw.1, hw.2.2.1⟩, hw.2.2.2.1.F ht⟩) hw.2.2.2.1.2.2 dX12_count_197
  rcases Classical.em (a1.toInt = 14) with c_3_14 | c_3_14
  · refine lv_tableIn (tgt := 198) hx hb dX12_count_3 (by omega) (by omega) (by rw [c_3_14]; rfl) (by decide) ?_
    refine lv_iconst (v := 0) hx hb dX12_count_198 (by decide) ?_
    refine lv_istore_n (lv' := [(3, .int 0), (2, .int 0), (0, .ref a0), (1, .int a1)]) hx hb dX12_count_199 rfl hl (by decide) rfl (fun ls hl => ?_)
    have J200 : ∀ (n : Nat) (H : Heap) (locs : List Loc) (ls : Array Slot), (∃ (w200 : va_W) (p200_l2 : Int32) (p200_l3 : Int32), tW (dC, dI) tys κ B A s w200 H locs ∧ Sm [] [] κ ws w200 ∧ (-2147483648) ≤ p200_l2.toInt ∧ p200_l2.toInt ≤ 2147483647 ∧ 0 ≤ p200_l3.toInt ∧ p200_l3.toInt ≤ 4 ∧ lv_has ls 4 [(0, .ref a0), (1, .int a1), (2, .int p200_l2), (3, .int p200_l3)] ∧ (4 - p200_l3.toInt).toNat = n) → W p l e (headSpec (ws_u yX12_count cX12_count 4 (some .int)) ({ frames := 2, cells := 0, slots := 0, locals := 43 })).room s m ([.ref a0, .int a1] : List Value).toArray below meth c H locs 0 0 QQ (F0 m 200 ls []) := by
      refine loopT _ ?_
      intro n_200 H locs ls hI ih_200
      obtain ⟨w200, p200_l2, p200_l3, hw, hM, l_p200_l2, h_p200_l2, l_p200_l3, h_p200_l3, hl, hn_200⟩ := hI
      refine lv_iload_n hx hb dX12_count_200 rfl (lv_at hl 3 rfl) ?_
      refine lv_aload_n hx hb dX12_count_201 rfl (lv_at hl 0 rfl) ?_
      refine t_getr (k1 := 63) (ci := 12) (C := RX12) (T := TX12) (N := 38) hx hb hts iX12 hown hw k_a0 rfl rfl rfl 20 (by decide) (hts _ tw_1145) (fun _ h9 => h9) dX12_count_202 rfl (fun v202 k_v202 f_a0_X12_20 => ?_)
      refine lv_iconst (v := 4) hx hb dX12_count_205 (by decide) ?_
      refine t_iald hx hb hw k_v202 rfl rfl (by decide) (by decide) dX12_count_206 (fun v206 r_v206 s_v206 f_v202_M_said_4 => ?_)
      have l_v206 : 0 ≤ v206.toInt := by rw [iv_63_4] at r_v206; exact r_v206
      have h_v206 : v206.toInt ≤ 4 := by rw [iv_63_4] at s_v206; exact s_v206
      refine lv_icmp_ge (tgt := 227) hx hb dX12_count_207 (by decide) (fun c_207 => ?_) (fun c_207 => ?_)
      · simp only [fa_lt, fa_le, fa_eq] at c_207
        refine lv_iload_n hx hb dX12_count_227 rfl (lv_at hl 2 rfl) ?_
        rw [hQ]
        refine W.widen (k := 0) (n := 0) (Nat.le_refl _) (Nat.le_refl _) ?_
        exact W.iret (v := p200_l2) hx hb hr (fun t ht hW => ⟨⟨p200_l2, w200, rfl, ⟨hw.2.2.2.2, hM⟩, by rw [ht]; exact hw.2.1, va_K.moved hW.alike hw.1, hw.2.2.1⟩, hw.2.2.2.1.F ht⟩) hw.2.2.2.1.2.2 dX12_count_228
      · simp only [fa_lt, fa_le, fa_eq] at c_207
        refine lv_iload_n hx hb dX12_count_210 rfl (lv_at hl 2 rfl) ?_
        refine lv_aload_n hx hb dX12_count_211 rfl (lv_at hl 0 rfl) ?_
        refine lv_iload_n hx hb dX12_count_212 rfl (lv_at hl 3 rfl) ?_
        refine lv_iconst (v := 1) hx hb dX12_count_213 (by decide) ?_
        refine t_calli (va_runV (As := [.int p200_l3, .int 1]) (rest := [.int p200_l2]) ⟨hx, hb, hml, hown, hts⟩ (t_X12_canonOf l dC dI tys κ B w200 hw.2.2.2.2 a0 k_a0 p200_l3 (by omega) (by omega) 1 (by decide) (by decide) H.size) (cwV 2 hts (gUV tw_1469 tw_1471 ts_5_10 tw_13 tw_1472) rfl rfl rfl (by decide +kernel) ⟨(Nat.le_of_ble_eq_true rfl), (Nat.le_of_ble_eq_true rfl)⟩) ⟨cPre.blind, t_recv hw (ci := 12) k_a0 rfl rfl, cPre.use hw.2.1 hw.1 hw.2.2.1 hE⟩ rfl rfl hl.1 rfl (lv_room (Nat.le_of_ble_eq_true rfl)) dX12_count_214 ⟨(Nat.le_of_ble_eq_true rfl), (Nat.le_of_ble_eq_true rfl)⟩) hw hA (fun _ _ h => h.1) (fun v214 w_4 H locs hp hw => ?_)
        obtain ⟨_, hm⟩ := hp
        have l_v214 := i32_lo v214
        have h_v214 := i32_hi v214
        have hM := hM.trans hm (by decide) (by decide)
        have f_a0_X12_20 := hm.1 _ _ _ _ f_a0_X12_20 (by decide)
        have f_v202_M_said_4 := hm.elt k_v202 (by decide) f_v202_M_said_4
        refine lv_iload_n hx hb dX12_count_217 rfl (lv_at hl 3 rfl) ?_
        refine lv_ishl hx hb dX12_count_218 ?_
        refine lv_topi (fun v218 e_v218 => ?_)
        have l_v218 := i32_lo v218
        have h_v218 := i32_hi v218
        refine lv_ior hx hb dX12_count_219 ?_
        refine lv_topi (fun v219 e_v219 => ?_)
        have l_v219 := i32_lo v219
        have h_v219 := i32_hi v219
        refine lv_istore_n (lv' := [(2, .int v219), (0, .ref a0), (1, .int a1), (3, .int p200_l3)]) hx hb dX12_count_220 rfl hl (by decide) rfl (fun ls hl => ?_)
        obtain ⟨v221, e_v221⟩ : ∃ y : Int32, y = p200_l3 + 1 := ⟨_, rfl⟩
        refine lv_iinc (v := v221) (lv' := [(3, .int v221), (2, .int v219), (0, .ref a0), (1, .int a1)]) hx hb dX12_count_221 hl (k := 3) rfl e_v221.symm (by decide) rfl (fun ls hl => ?_)
        have e_v221 : v221.toInt = p200_l3.toInt + 1 := ad_i e_v221 rfl li_1 (by omega) (by omega)
        refine lv_goto (tgt := 200) hx hb dX12_count_224 (by decide) ?_
        exact ih_200 _ _ _ _ (by omega) ⟨w_4, v219, v221, hw, hM, (by omega), (by omega), (by omega), (by omega), (lv_sub hl [2, 3, 1, 0] rfl), rfl⟩
    exact J200 _ _ _ _ ⟨ws, 0, 0, hw, hM, (by decide), (by decide), (by decide), (by decide), (lv_sub hl [2, 3, 1, 0] rfl), rfl⟩
  rcases Classical.em (a1.toInt = 15) with c_3_15 | c_3_15
  · refine lv_tableIn (tgt := 229) hx hb dX12_count_3 (by omega) (by omega) (by rw [c_3_15]; rfl) (by decide) ?_
    refine lv_iconst (v := 0) hx hb dX12_count_229 (by decide) ?_
    refine lv_istore_n (lv' := [(3, .int 0), (2, .int 0), (0, .ref a0), (1, .int a1)]) hx hb dX12_count_230 rfl hl (by decide) rfl (fun ls hl => ?_)
    have J231 : ∀ (n : Nat) (H : Heap) (locs : List Loc) (ls : Array Slot), (∃ (w231 : va_W) (p231_l2 : Int32) (p231_l3 : Int32), tW (dC, dI) tys κ B A s w231 H locs ∧ Sm [] [] κ ws w231 ∧ (-2147483648) ≤ p231_l2.toInt ∧ p231_l2.toInt ≤ 2147483647 ∧ 0 ≤ p231_l3.toInt ∧ p231_l3.toInt ≤ 6 ∧ lv_has ls 4 [(0, .ref a0), (1, .int a1), (2, .int p231_l2), (3, .int p231_l3)] ∧ (6 - p231_l3.toInt).toNat = n) → W p l e (headSpec (ws_u yX12_count cX12_count 4 (some .int)) ({ frames := 2, cells := 0, slots := 0, locals := 43 })).room s m ([.ref a0, .int a1] : List Value).toArray below meth c H locs 0 0 QQ (F0 m 231 ls []) := by
      refine loopT _ ?_
      intro n_231 H locs ls hI ih_231
      obtain ⟨w231, p231_l2, p231_l3, hw, hM, l_p231_l2, h_p231_l2, l_p231_l3, h_p231_l3, hl, hn_231⟩ := hI
      refine lv_iload_n hx hb dX12_count_231 rfl (lv_at hl 3 rfl) ?_
      refine lv_aload_n hx hb dX12_count_232 rfl (lv_at hl 0 rfl) ?_
      refine t_getr (k1 := 63) (ci := 12) (C := RX12) (T := TX12) (N := 38) hx hb hts iX12 hown hw k_a0 rfl rfl rfl 20 (by decide) (hts _ tw_1145) (fun _ h9 => h9) dX12_count_233 rfl (fun v233 k_v233 f_a0_X12_20 => ?_)
      refine lv_iconst (v := 3) hx hb dX12_count_236 (by decide) ?_
      refine t_iald hx hb hw k_v233 rfl rfl (by decide) (by decide) dX12_count_237 (fun v237 r_v237 s_v237 f_v233_M_said_3 => ?_)
      have l_v237 : 0 ≤ v237.toInt := by rw [iv_63_3] at r_v237; exact r_v237
      have h_v237 : v237.toInt ≤ 6 := by rw [iv_63_3] at s_v237; exact s_v237
      refine lv_icmp_ge (tgt := 265) hx hb dX12_count_238 (by decide) (fun c_238 => ?_) (fun c_238 => ?_)
      · simp only [fa_lt, fa_le, fa_eq] at c_238
        refine lv_iload_n hx hb dX12_count_265 rfl (lv_at hl 2 rfl) ?_
        rw [hQ]
        refine W.widen (k := 0) (n := 0) (Nat.le_refl _) (Nat.le_refl _) ?_
        exact W.iret (v := p231_l2) hx hb hr (fun t ht hW => ⟨⟨p231_l2, w231, rfl, ⟨hw.2.2.2.2, hM⟩, by rw [ht]; exact hw.2.1, va_K.moved hW.alike hw.1, hw.2.2.1⟩, hw.2.2.2.1.F ht⟩) hw.2.2.2.1.2.2 dX12_count_266
      · simp only [fa_lt, fa_le, fa_eq] at c_238
        refine lv_iload_n hx hb dX12_count_241 rfl (lv_at hl 2 rfl) ?_
        refine lv_aload_n hx hb dX12_count_242 rfl (lv_at hl 0 rfl) ?_
        refine lv_iload_n hx hb dX12_count_243 rfl (lv_at hl 3 rfl) ?_
        refine t_calli (va_runV (As := [.int p231_l3]) (rest := [.int p231_l2]) ⟨hx, hb, hml, hown, hts⟩ (t_X12_isSound l dC dI tys κ B w231 hw.2.2.2.2 a0 k_a0 p231_l3 H.size) (cwV 1 hts (gUV tw_1517 tw_1519 ts_6_3 tw_13 tw_1520) rfl rfl rfl (by decide +kernel) ⟨(Nat.le_of_ble_eq_true rfl), (Nat.le_of_ble_eq_true rfl)⟩) ⟨cPre.blind, t_recv hw (ci := 12) k_a0 rfl rfl, cPre.use hw.2.1 hw.1 hw.2.2.1 hE⟩ rfl rfl hl.1 rfl (lv_room (Nat.le_of_ble_eq_true rfl)) dX12_count_244 ⟨(Nat.le_of_ble_eq_true rfl), (Nat.le_of_ble_eq_true rfl)⟩) hw hA (fun _ _ h => h.2.2.1) (fun v244 w_5 H locs hp hw => ?_)
        obtain ⟨l_v244, h_v244, _, hm, x_v244_0⟩ := hp
        have hM := hM.trans hm (by decide) (by decide)
        have f_a0_X12_20 := hm.1 _ _ _ _ f_a0_X12_20 (by decide)
        have f_v233_M_said_3 := hm.elt k_v233 (by decide) f_v233_M_said_3
        have J257 : ∀ (H : Heap) (locs : List Loc) (ls : Array Slot) (w257 : va_W) (p257_s0 : Int32), tW (dC, dI) tys κ B A s w257 H locs → Sm [] [] κ ws w257 → 0 ≤ p257_s0.toInt → p257_s0.toInt ≤ 64 → fld w257 a0 12 20 (.ref v233) → elt w257 v233 (3 : Int32).toInt.toNat v237 → lv_has ls 4 [(0, .ref a0), (1, .int a1), (2, .int p231_l2), (3, .int p231_l3)] → W p l e (headSpec (ws_u yX12_count cX12_count 4 (some .int)) ({ frames := 2, cells := 0, slots := 0, locals := 43 })).room s m ([.ref a0, .int a1] : List Value).toArray below meth c H locs 0 0 QQ (F0 m 257 ls [.int p257_s0, .int p231_l2]) := by
          intro H locs ls w257 p257_s0 hw hM l_p257_s0 h_p257_s0 f_a0_X12_20 f_v233_M_said_3 hl
          refine lv_ior hx hb dX12_count_257 ?_
          refine lv_topi (fun v257 e_v257 => ?_)
          have l_v257 := i32_lo v257
          have h_v257 := i32_hi v257
          refine lv_istore_n (lv' := [(2, .int v257), (0, .ref a0), (1, .int a1), (3, .int p231_l3)]) hx hb dX12_count_258 rfl hl (by decide) rfl (fun ls hl => ?_)
          obtain ⟨v259, e_v259⟩ : ∃ y : Int32, y = p231_l3 + 1 := ⟨_, rfl⟩
          refine lv_iinc (v := v259) (lv' := [(3, .int v259), (2, .int v257), (0, .ref a0), (1, .int a1)]) hx hb dX12_count_259 hl (k := 3) rfl e_v259.symm (by decide) rfl (fun ls hl => ?_)
          have e_v259 : v259.toInt = p231_l3.toInt + 1 := ad_i e_v259 rfl li_1 (by omega) (by omega)
          refine lv_goto (tgt := 231) hx hb dX12_count_262 (by decide) ?_
          exact ih_231 _ _ _ _ (by omega) ⟨w257, v257, v259, hw, hM, (by omega), (by omega), (by omega), (by omega), (lv_sub hl [2, 3, 1, 0] rfl), rfl⟩
        refine lv_if_eq (tgt := 254) hx hb dX12_count_247 (by decide) (fun c_247 => ?_) (fun c_247 => ?_)
        · simp only [fa_lt, fa_le, fa_eq, li_0] at c_247
          refine lv_iconst (v := 1) hx hb dX12_count_254 (by decide) ?_
          refine lv_iload_n hx hb dX12_count_255 rfl (lv_at hl 3 rfl) ?_
          refine lv_ishl hx hb dX12_count_256 ?_
          refine lv_topi (fun v256 e_v256 => ?_)
          have ⟨l_v256, h_v256⟩ := sh_i e_v256 (by omega) (by omega)
          exact J257 _ _ _ w_5 v256 hw hM (by omega) (by omega) f_a0_X12_20 f_v233_M_said_3 (lv_sub hl [0, 1, 2, 3] rfl)
        · simp only [fa_lt, fa_le, fa_eq, li_0] at c_247
          refine lv_iconst (v := 0) hx hb dX12_count_250 (by decide) ?_
          refine lv_goto (tgt := 257) hx hb dX12_count_251 (by decide) ?_
          exact J257 _ _ _ w_5 0 hw hM (by decide) (by decide) f_a0_X12_20 f_v233_M_said_3 (lv_sub hl [0, 1, 2, 3] rfl)
    exact J231 _ _ _ _ ⟨ws, 0, 0, hw, hM, (by decide), (by decide), (by decide), (by decide), (lv_sub hl [2, 3, 1, 0] rfl), rfl⟩
  rcases Classical.em (a1.toInt = 16) with c_3_16 | c_3_16
  · refine lv_tableIn (tgt := 267) hx hb dX12_count_3 (by omega) (by omega) (by rw [c_3_16]; rfl) (by decide) ?_
    refine lv_aload_n hx hb dX12_count_267 rfl (lv_at hl 1 rfl) ?_
    refine t_getr (k1 := 63) (ci := 12) (C := RX12) (T := TX12) (N := 38) hx hb hts iX12 hown hw k_a0 rfl rfl rfl 20 (by decide) (hts _ tw_1145) (fun _ h9 => h9) dX12_count_268 rfl (fun v268 k_v268 f_a0_X12_20 => ?_)
    refine lv_sipush (v := 305) hx hb dX12_count_271 (by decide) ?_
    refine t_iald hx hb hw k_v268 rfl rfl (by decide) (by decide) dX12_count_274 (fun v274 r_v274 s_v274 f_v268_M_said_305 => ?_)
    have l_v274 : 0 ≤ v274.toInt := by rw [iv_63_305] at r_v274; exact r_v274
    have h_v274 : v274.toInt ≤ 10 := by rw [iv_63_305] at s_v274; exact s_v274
    rw [hQ]
    refine W.widen (k := 0) (n := 0) (Nat.le_refl _) (Nat.le_refl _) ?_
    exact W.iret (v := v274) hx hb hr (fun t ht hW => ⟨⟨v274, ws, rfl, ⟨hw.2.2.2.2, hM⟩, by rw [ht]; exact hw.2.1, va_K.moved hW.alike hw.1, hw.2.2.1⟩, hw.2.2.2.1.F ht⟩) hw.2.2.2.1.2.2 dX12_count_275
  rcases Classical.em (a1.toInt = 17) with c_3_17 | c_3_17
  · refine lv_tableIn (tgt := 276) hx hb dX12_count_3 (by omega) (by omega) (by rw [c_3_17]; rfl) (by decide) ?_
    refine lv_aload_n hx hb dX12_count_276 rfl (lv_at hl 1 rfl) ?_
    refine t_geti (ci := 12) (C := RX12) (T := TX12) (N := 38) hx hb hts iX12 hown hw k_a0 rfl rfl rfl 26 (by decide) (hts _ tw_1151) (fun _ h9 => h9) dX12_count_277 rfl (fun v277 l_v277 h_v277 f_a0_X12_26 => ?_)
    have l_v277 : 0 ≤ v277.toInt := l_v277
    have h_v277 : v277.toInt ≤ 20 := h_v277
    rw [hQ]
    refine W.widen (k := 0) (n := 0) (Nat.le_refl _) (Nat.le_refl _) ?_
    exact W.iret (v := v277) hx hb hr (fun t ht hW => ⟨⟨v277, ws, rfl, ⟨hw.2.2.2.2, hM⟩, by rw [ht]; exact hw.2.1, va_K.moved hW.alike hw.1, hw.2.2.1⟩, hw.2.2.2.1.F ht⟩) hw.2.2.2.1.2.2 dX12_count_280
  rcases Classical.em (a1.toInt = 18) with c_3_18 | c_3_18
  · refine lv_tableIn (tgt := 281) hx hb dX12_count_3 (by omega) (by omega) (by rw [c_3_18]; rfl) (by decide) ?_
    refine lv_aload_n hx hb dX12_count_281 rfl (lv_at hl 1 rfl) ?_
    refine t_geti (ci := 12) (C := RX12) (T := TX12) (N := 38) hx hb hts iX12 hown hw k_a0 rfl rfl rfl 22 (by decide) (hts _ tw_1147) (fun _ h9 => h9) dX12_count_282 rfl (fun v282 l_v282 h_v282 f_a0_X12_22 => ?_)
    have l_v282 : (-2147483648) ≤ v282.toInt := l_v282
    have h_v282 : v282.toInt ≤ 2147483647 := h_v282
    rw [hQ]
    refine W.widen (k := 0) (n := 0) (Nat.le_refl _) (Nat.le_refl _) ?_
    exact W.iret (v := v282) hx hb hr (fun t ht hW => ⟨⟨v282, ws, rfl, ⟨hw.2.2.2.2, hM⟩, by rw [ht]; exact hw.2.1, va_K.moved hW.alike hw.1, hw.2.2.1⟩, hw.2.2.2.1.F ht⟩) hw.2.2.2.1.2.2 dX12_count_285
  rcases Classical.em (a1.toInt = 19) with c_3_19 | c_3_19
  · refine lv_tableIn (tgt := 286) hx hb dX12_count_3 (by omega) (by omega) (by rw [c_3_19]; rfl) (by decide) ?_
    refine lv_aload_n hx hb dX12_count_286 rfl (lv_at hl 1 rfl) ?_
    refine t_geti (ci := 12) (C := RX12) (T := TX12) (N := 38) hx hb hts iX12 hown hw k_a0 rfl rfl rfl 1 (by decide) (hts _ tw_1126) (fun _ h9 => h9) dX12_count_287 rfl (fun v287 l_v287 h_v287 f_a0_X12_1 => ?_)
    have l_v287 : 0 ≤ v287.toInt := l_v287
    have h_v287 : v287.toInt ≤ 400 := h_v287
    rw [hQ]
    refine W.widen (k := 0) (n := 0) (Nat.le_refl _) (Nat.le_refl _) ?_
    exact W.iret (v := v287) hx hb hr (fun t ht hW => ⟨⟨v287, ws, rfl, ⟨hw.2.2.2.2, hM⟩, by rw [ht]; exact hw.2.1, va_K.moved hW.alike hw.1, hw.2.2.1⟩, hw.2.2.2.1.F ht⟩) hw.2.2.2.1.2.2 dX12_count_290
  · refine lv_tableOut (tgt := 291) hx hb dX12_count_3 (by omega) (by decide) ?_
    refine lv_iconst (v := (-1)) hx hb dX12_count_291 (by decide) ?_
    rw [hQ]
    refine W.widen (k := 0) (n := 0) (Nat.le_refl _) (Nat.le_refl _) ?_
    exact W.iret (v := (-1)) hx hb hr (fun t ht hW => ⟨⟨(-1), ws, rfl, ⟨hw.2.2.2.2, hM⟩, by rw [ht]; exact hw.2.1, va_K.moved hW.alike hw.1, hw.2.2.1⟩, hw.2.2.2.1.F ht⟩) hw.2.2.2.1.2.2 dX12_count_292
set_option maxHeartbeats 4000000 in
set_option maxRecDepth 100000 in
theorem t_X12_draw (l : Launch) (dC : Nat → ClassId) (dI : Nat → Nat → Nat) (tys : List (ClassId × FieldType)) (κ : tK) (B : Nat) (ws : va_W) (hT : Ty κ tys B ws) (a0 : Nat) (k_a0 : κ a0 = some 12) (a1 : Int32) (l_a1 : 100 ≤ a1.toInt) (h_a1 : a1.toInt ≤ 100) (sz : Nat) : Met l yX12_draw (ws_u yX12_draw cX12_draw 2 (some .int)) ({ frames := 0, cells := 0, slots := 0, locals := 0 }) (va_Pc [.ref a0, .int a1] (cPre (dC, dI) tys ws sz)) (va_Qi (fun (r : Int32) (w : va_W) => Ty κ tys B w ∧ Sm [(12, 33)] [] κ ws w) (fun w t => cPost (dC, dI) tys w (va_A ws sz) t) (va_A ws sz)) 0 0 (va_A ws sz) := by
  refine Met.ofW (cc := cX12_draw) (maxL := 2) (ret := (some .int)) (by decide) rfl ?_
  intro p e s m args below meth c s₁ B0 hml hv
  obtain ⟨rfl, hsz, hP, hK, hD0, hE⟩ := hv
  have hx := B0.exec
  have hb := B0.bytes
  have hr := B0.returns
  have hts0 := atoms_spec (ws := ws_u yX12_draw cX12_draw 2 (some .int)) B0.pre
  have hts : ∀ w ∈ gT, w.before _ s = true := fun w h => hts0 w (List.mem_cons_of_mem _ h)
  have hown : s.vm.findClass RX12 = some m.cls := findClass_of_methodNamed B0.named
  have hlocks := B0.notSynchronized
  subst hsz
  have hD := hD0.self (sz := s.heap.size)
  generalize hAe : va_A ws s.heap.size = A at hD ⊢
  have hA : ∀ q : Nat, s.heap.size ≤ q → A q := fun q h => by rw [← hAe]; exact Or.inr h
  have hw : tW (dC, dI) tys κ B A s ws s.heap [] := ⟨hK, hP, hD, va_S.rf, hT⟩
  have hM : Sm [(12, 33)] [] κ ws ws := Sm.rf
  clear hP hK hD hD0 hts0
  have hl := lv_entry ([.ref a0, .int a1]) (n := 2) (Nat.le_of_ble_eq_true rfl)
  rw [lg_entry_eq]
  generalize (lg_sl ([.ref a0, .int a1]) ++ List.replicate (2 - (lg_sl ([.ref a0, .int a1])).length) Slot.unset).toArray = ls at hl ⊢
  have hl : lv_has ls 2 [(0, .ref a0), (1, .int a1)] := hl
  refine t_start (fun QQ hQ => ?_)
  refine lv_aload_n hx hb dX12_draw_0 rfl (lv_at hl 0 rfl) ?_
  refine lv_aload_n hx hb dX12_draw_1 rfl (lv_at hl 0 rfl) ?_
  refine t_getl (ci := 12) (C := RX12) (T := TX12) (N := 38) hx hb hts iX12 hown hw k_a0 rfl rfl rfl 33 (by decide) (hts _ tw_1158) (fun _ h9 => h9) dX12_draw_2 rfl (fun v2 f_a0_X12_33 => ?_)
  refine lv_ldc2 (v := 1103515245) hx hb hown (hts _ tw_1737) dX12_draw_5 ?_
  refine lv_topl (fun v5 e_v5 => ?_)
  have t_v5 : v5.toInt = 1103515245 := by rw [e_v5]; decide
  refine lv_lmul hx hb dX12_draw_8 ?_
  refine lv_topl (fun v8 e_v8 => ?_)
  refine lv_ldc2 (v := 12345) hx hb hown (hts _ tw_1738) dX12_draw_9 ?_
  refine lv_topl (fun v9 e_v9 => ?_)
  have t_v9 : v9.toInt = 12345 := by rw [e_v9]; decide
  refine lv_ladd hx hb dX12_draw_12 ?_
  refine lv_topl (fun v12 e_v12 => ?_)
  refine lv_ldc2 (v := 2147483648) hx hb hown (hts _ tw_1739) dX12_draw_13 ?_
  refine lv_topl (fun v13 e_v13 => ?_)
  have t_v13 : v13.toInt = 2147483648 := by rw [e_v13]; decide
  refine lv_lrem hx hb dX12_draw_16 (by rw [e_v13]; decide) ?_
  refine lv_topl (fun v16 e_v16 => ?_)
  refine t_put (ci := 12) (C := RX12) (T := TX12) (N := 38) (v := .long v16) hx hb hts iX12 tyX12 tyX12_ok nmX12 hown hw k_a0 rfl rfl rfl 33 (by decide) (hts _ tw_1158) (fun _ h9 => h9) rfl (tyX12_ok 33 (by decide)) rfl rfl (okV.long rfl) dX12_draw_17 (fun w_1 H locs hw u => ?_)
  have hM := hM.up1 u (by decide)
  have f_a0_X12_33 := u.2.2
  refine lv_aload_n hx hb dX12_draw_20 rfl (lv_at hl 0 rfl) ?_
  refine t_getk (ci := 12) (C := RX12) (T := TX12) (N := 38) hx hb hts iX12 hown hw rfl 33 (by decide) (hts _ tw_1158) (fun _ h9 => h9) dX12_draw_21 f_a0_X12_33 ?_
  refine lv_ldc2 (v := 65536) hx hb hown (hts _ tw_1740) dX12_draw_24 ?_
  refine lv_topl (fun v24 e_v24 => ?_)
  have t_v24 : v24.toInt = 65536 := by rw [e_v24]; decide
  refine lv_ldiv hx hb dX12_draw_27 (by rw [e_v24]; decide) ?_
  refine lv_topl (fun v27 e_v27 => ?_)
  refine lv_iload_n hx hb dX12_draw_28 rfl (lv_at hl 1 rfl) ?_
  refine lv_i2l hx hb dX12_draw_29 rfl ?_
  refine lv_topl (fun v29 e_v29 => ?_)
  have t_v29 : v29.toInt = a1.toInt := by rw [e_v29, Int32.toInt_toInt64]
  refine lv_lrem hx hb dX12_draw_30 (lnz_i t_v29 (by omega)) ?_
  refine lv_topl (fun v30 e_v30 => ?_)
  refine lv_l2i hx hb dX12_draw_31 rfl ?_
  refine lv_topi (fun v31 e_v31 => ?_)
  have l_v31 := i32_lo v31
  have h_v31 := i32_hi v31
  rw [hQ]
  refine W.widen (k := 0) (n := 0) (Nat.le_refl _) (Nat.le_refl _) ?_
  exact W.iret (v := v31) hx hb hr (fun t ht hW => ⟨⟨v31, w_1, rfl, ⟨hw.2.2.2.2, hM⟩, by rw [ht]; exact hw.2.1, va_K.moved hW.alike hw.1, hw.2.2.1⟩, hw.2.2.2.1.F ht⟩) hw.2.2.2.1.2.2 dX12_draw_32
set_option maxHeartbeats 4000000 in
set_option maxRecDepth 100000 in
theorem t_X12_end (l : Launch) (dC : Nat → ClassId) (dI : Nat → Nat → Nat) (tys : List (ClassId × FieldType)) (κ : tK) (B : Nat) (ws : va_W) (hT : Ty κ tys B ws) (a0 : Nat) (k_a0 : κ a0 = some 12) (a1 : Int32) (sz : Nat) : Met l yX12_end (ws_u yX12_end cX12_end 2 (some .int)) ({ frames := 0, cells := 0, slots := 0, locals := 0 }) (va_Pc [.ref a0, .int a1] (cPre (dC, dI) tys ws sz)) (va_Qi (fun (r : Int32) (w : va_W) => (-1) ≤ r.toInt ∧ r.toInt ≤ 400 ∧ Ty κ tys B w ∧ Sm [(12, 1)] [] κ ws w) (fun w t => cPost (dC, dI) tys w (va_A ws sz) t) (va_A ws sz)) 0 0 (va_A ws sz) := by
  refine Met.ofW (cc := cX12_end) (maxL := 2) (ret := (some .int)) (by decide) rfl ?_
  intro p e s m args below meth c s₁ B0 hml hv
  obtain ⟨rfl, hsz, hP, hK, hD0, hE⟩ := hv
  have hx := B0.exec
  have hb := B0.bytes
  have hr := B0.returns
  have hts0 := atoms_spec (ws := ws_u yX12_end cX12_end 2 (some .int)) B0.pre
  have hts : ∀ w ∈ gT, w.before _ s = true := fun w h => hts0 w (List.mem_cons_of_mem _ h)
  have hown : s.vm.findClass RX12 = some m.cls := findClass_of_methodNamed B0.named
  have hlocks := B0.notSynchronized
  subst hsz
  have hD := hD0.self (sz := s.heap.size)
  generalize hAe : va_A ws s.heap.size = A at hD ⊢
  have hA : ∀ q : Nat, s.heap.size ≤ q → A q := fun q h => by rw [← hAe]; exact Or.inr h
  have hw : tW (dC, dI) tys κ B A s ws s.heap [] := ⟨hK, hP, hD, va_S.rf, hT⟩
  have hM : Sm [(12, 1)] [] κ ws ws := Sm.rf
  clear hP hK hD hD0 hts0
  have l_a1 := i32_lo a1
  have h_a1 := i32_hi a1
  have hl := lv_entry ([.ref a0, .int a1]) (n := 2) (Nat.le_of_ble_eq_true rfl)
  rw [lg_entry_eq]
  generalize (lg_sl ([.ref a0, .int a1]) ++ List.replicate (2 - (lg_sl ([.ref a0, .int a1])).length) Slot.unset).toArray = ls at hl ⊢
  have hl : lv_has ls 2 [(0, .ref a0), (1, .int a1)] := hl
  refine t_start (fun QQ hQ => ?_)
  refine lv_iload_n hx hb dX12_end_0 rfl (lv_at hl 1 rfl) ?_
  refine lv_if_lt (tgt := 12) hx hb dX12_end_1 (by decide) (fun c_1 => ?_) (fun c_1 => ?_)
  · simp only [fa_lt, fa_le, fa_eq, li_0] at c_1
    refine lv_iconst (v := (-1)) hx hb dX12_end_12 (by decide) ?_
    rw [hQ]
    refine W.widen (k := 0) (n := 0) (Nat.le_refl _) (Nat.le_refl _) ?_
    exact W.iret (v := (-1)) hx hb hr (fun t ht hW => ⟨⟨(-1), ws, rfl, ⟨(by decide), (by decide), hw.2.2.2.2, hM⟩, by rw [ht]; exact hw.2.1, va_K.moved hW.alike hw.1, hw.2.2.1⟩, hw.2.2.2.1.F ht⟩) hw.2.2.2.1.2.2 dX12_end_13
  · simp only [fa_lt, fa_le, fa_eq, li_0] at c_1
    refine lv_iload_n hx hb dX12_end_4 rfl (lv_at hl 1 rfl) ?_
    refine lv_aload_n hx hb dX12_end_5 rfl (lv_at hl 0 rfl) ?_
    refine t_geti (ci := 12) (C := RX12) (T := TX12) (N := 38) hx hb hts iX12 hown hw k_a0 rfl rfl rfl 1 (by decide) (hts _ tw_1126) (fun _ h9 => h9) dX12_end_6 rfl (fun v6 l_v6 h_v6 f_a0_X12_1 => ?_)
    have l_v6 : 0 ≤ v6.toInt := l_v6
    have h_v6 : v6.toInt ≤ 400 := h_v6
    refine lv_icmp_le (tgt := 14) hx hb dX12_end_9 (by decide) (fun c_9 => ?_) (fun c_9 => ?_)
    · simp only [fa_lt, fa_le, fa_eq] at c_9
      refine lv_aload_n hx hb dX12_end_14 rfl (lv_at hl 0 rfl) ?_
      refine lv_iload_n hx hb dX12_end_15 rfl (lv_at hl 1 rfl) ?_
      refine t_put (ci := 12) (C := RX12) (T := TX12) (N := 38) (v := .int a1) hx hb hts iX12 tyX12 tyX12_ok nmX12 hown hw k_a0 rfl rfl rfl 1 (by decide) (hts _ tw_1126) (fun _ h9 => h9) rfl (tyX12_ok 1 (by decide)) rfl rfl (okV.int rfl (by omega) (by omega)) dX12_end_16 (fun w_1 H locs hw u => ?_)
      have hM := hM.up1 u (by decide)
      have f_a0_X12_1 := u.2.2
      refine lv_iload_n hx hb dX12_end_19 rfl (lv_at hl 1 rfl) ?_
      rw [hQ]
      refine W.widen (k := 0) (n := 0) (Nat.le_refl _) (Nat.le_refl _) ?_
      exact W.iret (v := a1) hx hb hr (fun t ht hW => ⟨⟨a1, w_1, rfl, ⟨(by omega), (by omega), hw.2.2.2.2, hM⟩, by rw [ht]; exact hw.2.1, va_K.moved hW.alike hw.1, hw.2.2.1⟩, hw.2.2.2.1.F ht⟩) hw.2.2.2.1.2.2 dX12_end_20
    · simp only [fa_lt, fa_le, fa_eq] at c_9
      refine lv_iconst (v := (-1)) hx hb dX12_end_12 (by decide) ?_
      rw [hQ]
      refine W.widen (k := 0) (n := 0) (Nat.le_refl _) (Nat.le_refl _) ?_
      exact W.iret (v := (-1)) hx hb hr (fun t ht hW => ⟨⟨(-1), ws, rfl, ⟨(by decide), (by decide), hw.2.2.2.2, hM⟩, by rw [ht]; exact hw.2.1, va_K.moved hW.alike hw.1, hw.2.2.1⟩, hw.2.2.2.1.F ht⟩) hw.2.2.2.1.2.2 dX12_end_13
set_option maxHeartbeats 4000000 in
set_option maxRecDepth 100000 in
theorem t_X12_falls (l : Launch) (dC : Nat → ClassId) (dI : Nat → Nat → Nat) (tys : List (ClassId × FieldType)) (κ : tK) (B : Nat) (ws : va_W) (hT : Ty κ tys B ws) (a0 : Nat) (k_a0 : κ a0 = some 12) (a1 : Int32) (a2 : Int32) (sz : Nat) : Met l yX12_falls (ws_u yX12_falls cX12_falls 5 (some .int)) ({ frames := 2, cells := 0, slots := 0, locals := 43 }) (va_Pc [.ref a0, .int a1, .int a2] (cPre (dC, dI) tys ws sz)) (va_Qi (fun (r : Int32) (w : va_W) => (-2) ≤ r.toInt ∧ r.toInt ≤ 2400 ∧ Ty κ tys B w ∧ Sm [] [] κ ws w) (fun w t => cPost (dC, dI) tys w (va_A ws sz) t) (va_A ws sz)) 0 0 (va_A ws sz) := by
  refine Met.ofW (cc := cX12_falls) (maxL := 5) (ret := (some .int)) (by decide) rfl ?_
  intro p e s m args below meth c s₁ B0 hml hv
  obtain ⟨rfl, hsz, hP, hK, hD0, hE⟩ := hv
  have hx := B0.exec
  have hb := B0.bytes
  have hr := B0.returns
  have hts0 := atoms_spec (ws := ws_u yX12_falls cX12_falls 5 (some .int)) B0.pre
  have hts : ∀ w ∈ gT, w.before _ s = true := fun w h => hts0 w (List.mem_cons_of_mem _ h)
  have hown : s.vm.findClass RX12 = some m.cls := findClass_of_methodNamed B0.named
  have hlocks := B0.notSynchronized
  subst hsz
  have hD := hD0.self (sz := s.heap.size)
  generalize hAe : va_A ws s.heap.size = A at hD ⊢
  have hA : ∀ q : Nat, s.heap.size ≤ q → A q := fun q h => by rw [← hAe]; exact Or.inr h
  have hw : tW (dC, dI) tys κ B A s ws s.heap [] := ⟨hK, hP, hD, va_S.rf, hT⟩
  have hM : Sm [] [] κ ws ws := Sm.rf
  clear hP hK hD hD0 hts0
  have l_a1 := i32_lo a1
  have h_a1 := i32_hi a1
  have l_a2 := i32_lo a2
  have h_a2 := i32_hi a2
  have hl := lv_entry ([.ref a0, .int a1, .int a2]) (n := 5) (Nat.le_of_ble_eq_true rfl)
  rw [lg_entry_eq]
  generalize (lg_sl ([.ref a0, .int a1, .int a2]) ++ List.replicate (5 - (lg_sl ([.ref a0, .int a1, .int a2])).length) Slot.unset).toArray = ls at hl ⊢
  have hl : lv_has ls 5 [(0, .ref a0), (1, .int a1), (2, .int a2)] := hl
  refine t_start (fun QQ hQ => ?_)
  refine lv_aload_n hx hb dX12_falls_0 rfl (lv_at hl 0 rfl) ?_
  refine lv_iload_n hx hb dX12_falls_1 rfl (lv_at hl 1 rfl) ?_
  refine t_calli (va_runV (As := [.int a1]) (rest := []) ⟨hx, hb, hml, hown, hts⟩ (t_X12_isAlive l dC dI tys κ B ws hw.2.2.2.2 a0 k_a0 a1 s.heap.size) (cwV 1 hts (gUV tw_1571 tw_1573 ts_6_15 tw_13 tw_1574) rfl rfl rfl (by decide +kernel) ⟨(Nat.le_of_ble_eq_true rfl), (Nat.le_of_ble_eq_true rfl)⟩) ⟨cPre.blind, t_recv hw (ci := 12) k_a0 rfl rfl, cPre.use hw.2.1 hw.1 hw.2.2.1 hE⟩ rfl rfl hl.1 rfl (lv_room (Nat.le_of_ble_eq_true rfl)) dX12_falls_2 ⟨(Nat.le_of_ble_eq_true rfl), (Nat.le_of_ble_eq_true rfl)⟩) hw hA (fun _ _ h => h.2.2.1) (fun v2 w_1 H locs hp hw => ?_)
  obtain ⟨l_v2, h_v2, _, hm, x_v2_0⟩ := hp
  have hM := hM.trans hm (by decide) (by decide)
  refine lv_if_eq (tgt := 20) hx hb dX12_falls_5 (by decide) (fun c_5 => ?_) (fun c_5 => ?_)
  · simp only [fa_lt, fa_le, fa_eq, li_0] at c_5
    refine lv_iconst (v := (-1)) hx hb dX12_falls_20 (by decide) ?_
    rw [hQ]
    refine W.widen (k := 0) (n := 0) (Nat.le_refl _) (Nat.le_refl _) ?_
    exact W.iret (v := (-1)) hx hb hr (fun t ht hW => ⟨⟨(-1), w_1, rfl, ⟨(by decide), (by decide), hw.2.2.2.2, hM⟩, by rw [ht]; exact hw.2.1, va_K.moved hW.alike hw.1, hw.2.2.1⟩, hw.2.2.2.1.F ht⟩) hw.2.2.2.1.2.2 dX12_falls_21
  · simp only [fa_lt, fa_le, fa_eq, li_0] at c_5
    refine lv_iload_n hx hb dX12_falls_8 rfl (lv_at hl 2 rfl) ?_
    refine lv_i2l hx hb dX12_falls_9 rfl ?_
    refine lv_topl (fun v9 e_v9 => ?_)
    have t_v9 : v9.toInt = a2.toInt := by rw [e_v9, Int32.toInt_toInt64]
    refine lv_lconst (v := 1) hx hb dX12_falls_10 (by decide) ?_
    obtain ⟨v10, e_v10⟩ : ∃ y : Int64, y = 1 := ⟨_, rfl⟩
    refine W.eq (g2 := F0 m 11 ls [.long v10, .long v9]) (by rw [e_v10]) ?_
    have t_v10 : v10.toInt = 1 := by rw [e_v10]; decide
    refine lv_ldc2 (v := 60) hx hb hown (hts _ tw_1596) dX12_falls_11 ?_
    refine lv_topl (fun v11 e_v11 => ?_)
    have t_v11 : v11.toInt = 60 := by rw [e_v11]; decide
    refine t_calli (va_runS (As := [.long v9, .long v10, .long v11]) (rest := []) ⟨hx, hb, hml, hown, hts⟩ (t_X12_in l dC dI tys κ B w_1 hw.2.2.2.2 v9 v10 v11 H.size) (va_cwS 3 hts (gUS tw_1316 tw_1317 tw_13 tw_1318) rfl rfl rfl (by decide +kernel) ⟨(Nat.le_of_ble_eq_true rfl), (Nat.le_of_ble_eq_true rfl)⟩) ⟨cPre.blind, cPre.use hw.2.1 hw.1 hw.2.2.1 hE⟩ rfl rfl hl.1 rfl (lv_room (Nat.le_of_ble_eq_true rfl)) dX12_falls_14 ⟨(Nat.le_of_ble_eq_true rfl), (Nat.le_of_ble_eq_true rfl)⟩) hw hA (fun _ _ h => h.2.2.1) (fun v14 w_2 H locs hp hw => ?_)
    obtain ⟨l_v14, h_v14, _, hm, x_v14_0⟩ := hp
    have hM := hM.trans hm (by decide) (by decide)
    refine lv_if_ne (tgt := 22) hx hb dX12_falls_17 (by decide) (fun c_17 => ?_) (fun c_17 => ?_)
    · simp only [fa_lt, fa_le, fa_eq, li_0] at c_17
      refine lv_aload_n hx hb dX12_falls_22 rfl (lv_at hl 0 rfl) ?_
      refine lv_iload_n hx hb dX12_falls_23 rfl (lv_at hl 1 rfl) ?_
      refine lv_iconst (v := 0) hx hb dX12_falls_24 (by decide) ?_
      refine t_calli (va_runV (As := [.int a1, .int 0]) (rest := []) ⟨hx, hb, hml, hown, hts⟩ (t_X12_canonOf l dC dI tys κ B w_2 hw.2.2.2.2 a0 k_a0 a1 (by omega) (by omega) 0 (by decide) (by decide) H.size) (cwV 2 hts (gUV tw_1469 tw_1471 ts_5_10 tw_13 tw_1472) rfl rfl rfl (by decide +kernel) ⟨(Nat.le_of_ble_eq_true rfl), (Nat.le_of_ble_eq_true rfl)⟩) ⟨cPre.blind, t_recv hw (ci := 12) k_a0 rfl rfl, cPre.use hw.2.1 hw.1 hw.2.2.1 hE⟩ rfl rfl hl.1 rfl (lv_room (Nat.le_of_ble_eq_true rfl)) dX12_falls_25 ⟨(Nat.le_of_ble_eq_true rfl), (Nat.le_of_ble_eq_true rfl)⟩) hw hA (fun _ _ h => h.1) (fun v25 w_3 H locs hp hw => ?_)
      obtain ⟨_, hm⟩ := hp
      have l_v25 := i32_lo v25
      have h_v25 := i32_hi v25
      have hM := hM.trans hm (by decide) (by decide)
      refine lv_istore_n (lv' := [(3, .int v25), (0, .ref a0), (1, .int a1), (2, .int a2)]) hx hb dX12_falls_28 rfl hl (by decide) rfl (fun ls hl => ?_)
      refine lv_aload_n hx hb dX12_falls_29 rfl (lv_at hl 1 rfl) ?_
      refine t_getr (k1 := 63) (ci := 12) (C := RX12) (T := TX12) (N := 38) hx hb hts iX12 hown hw k_a0 rfl rfl rfl 20 (by decide) (hts _ tw_1145) (fun _ h9 => h9) dX12_falls_30 rfl (fun v30 k_v30 f_a0_X12_20 => ?_)
      refine lv_bipush (v := 10) hx hb dX12_falls_33 (by decide) ?_
      refine t_iald hx hb hw k_v30 rfl rfl (by decide) (by decide) dX12_falls_35 (fun v35 r_v35 s_v35 f_v30_M_said_10 => ?_)
      have l_v35 : 0 ≤ v35.toInt := by rw [iv_63_10] at r_v35; exact r_v35
      have h_v35 : v35.toInt ≤ 1999 := by rw [iv_63_10] at s_v35; exact s_v35
      refine lv_istore (lv' := [(4, .int v35), (3, .int v25), (0, .ref a0), (1, .int a1), (2, .int a2)]) hx hb dX12_falls_36 hl (by decide) rfl (fun ls hl => ?_)
      have J38 : ∀ (n : Nat) (H : Heap) (locs : List Loc) (ls : Array Slot), (∃ (w38 : va_W) (p38_l3 : Int32) (p38_l4 : Int32), tW (dC, dI) tys κ B A s w38 H locs ∧ Sm [] [] κ ws w38 ∧ (-2147483648) ≤ p38_l3.toInt ∧ p38_l3.toInt ≤ 2147483647 ∧ 0 ≤ p38_l4.toInt ∧ p38_l4.toInt ≤ 2059 ∧ fld w38 a0 12 20 (.ref v30) ∧ elt w38 v30 (10 : Int32).toInt.toNat v35 ∧ lv_has ls 5 [(0, .ref a0), (1, .int a1), (2, .int a2), (3, .int p38_l3), (4, .int p38_l4)] ∧ (2059 - p38_l4.toInt).toNat = n) → W p l e (headSpec (ws_u yX12_falls cX12_falls 5 (some .int)) ({ frames := 2, cells := 0, slots := 0, locals := 43 })).room s m ([.ref a0, .int a1, .int a2] : List Value).toArray below meth c H locs 0 0 QQ (F0 m 38 ls []) := by
        refine loopT _ ?_
        intro n_38 H locs ls hI ih_38
        obtain ⟨w38, p38_l3, p38_l4, hw, hM, l_p38_l3, h_p38_l3, l_p38_l4, h_p38_l4, f_a0_X12_20, f_v30_M_said_10, hl, hn_38⟩ := hI
        refine lv_iload hx hb dX12_falls_38 (lv_at hl 4 rfl) ?_
        refine lv_aload_n hx hb dX12_falls_40 rfl (lv_at hl 0 rfl) ?_
        refine t_getk (ci := 12) (C := RX12) (T := TX12) (N := 38) hx hb hts iX12 hown hw rfl 20 (by decide) (hts _ tw_1145) (fun _ h9 => h9) dX12_falls_41 f_a0_X12_20 ?_
        refine lv_bipush (v := 10) hx hb dX12_falls_44 (by decide) ?_
        refine t_ialdk hx hb hw k_v30 rfl rfl (by decide) (by decide) f_v30_M_said_10 dX12_falls_46 ?_
        refine lv_iload_n hx hb dX12_falls_47 rfl (lv_at hl 2 rfl) ?_
        refine lv_iadd hx hb dX12_falls_48 ?_
        refine lv_topi (fun v48 e_v48 => ?_)
        have e_v48 : v48.toInt = v35.toInt + a2.toInt := ad_i e_v48 rfl rfl (by omega) (by omega)
        refine lv_icmp_ge (tgt := 85) hx hb dX12_falls_49 (by decide) (fun c_49 => ?_) (fun c_49 => ?_)
        · simp only [fa_lt, fa_le, fa_eq] at c_49
          refine lv_bipush (v := (-2)) hx hb dX12_falls_85 (by decide) ?_
          rw [hQ]
          refine W.widen (k := 0) (n := 0) (Nat.le_refl _) (Nat.le_refl _) ?_
          exact W.iret (v := (-2)) hx hb hr (fun t ht hW => ⟨⟨(-2), w38, rfl, ⟨(by decide), (by decide), hw.2.2.2.2, hM⟩, by rw [ht]; exact hw.2.1, va_K.moved hW.alike hw.1, hw.2.2.1⟩, hw.2.2.2.1.F ht⟩) hw.2.2.2.1.2.2 dX12_falls_87
        · simp only [fa_lt, fa_le, fa_eq] at c_49
          refine lv_iload_n hx hb dX12_falls_52 rfl (lv_at hl 3 rfl) ?_
          refine lv_iload hx hb dX12_falls_53 (lv_at hl 4 rfl) ?_
          refine lv_bipush (v := 10) hx hb dX12_falls_55 (by decide) ?_
          refine lv_irem hx hb dX12_falls_57 (ne_i li_10 (by decide)) ?_
          refine lv_topi (fun v57 e_v57 => ?_)
          have e_v57 : v57.toInt = p38_l4.toInt % 10 := rm_i e_v57 rfl li_10 (by omega) (by decide)
          refine lv_bipush (v := 9) hx hb dX12_falls_58 (by decide) ?_
          have J68 : ∀ (H : Heap) (locs : List Loc) (ls : Array Slot) (w68 : va_W) (p68_s0 : Int32), tW (dC, dI) tys κ B A s w68 H locs → Sm [] [] κ ws w68 → 0 ≤ p68_s0.toInt → p68_s0.toInt ≤ 1 → fld w68 a0 12 20 (.ref v30) → elt w68 v30 (10 : Int32).toInt.toNat v35 → lv_has ls 5 [(0, .ref a0), (1, .int a1), (2, .int a2), (3, .int p38_l3), (4, .int p38_l4)] → W p l e (headSpec (ws_u yX12_falls cX12_falls 5 (some .int)) ({ frames := 2, cells := 0, slots := 0, locals := 43 })).room s m ([.ref a0, .int a1, .int a2] : List Value).toArray below meth c H locs 0 0 QQ (F0 m 68 ls [.int p68_s0, .int p38_l3]) := by
            intro H locs ls w68 p68_s0 hw hM l_p68_s0 h_p68_s0 f_a0_X12_20 f_v30_M_said_10 hl
            refine lv_iadd hx hb dX12_falls_68 ?_
            refine lv_topi (fun v68 e_v68 => ?_)
            have l_v68 := i32_lo v68
            have h_v68 := i32_hi v68
            refine lv_istore_n (lv' := [(3, .int v68), (0, .ref a0), (1, .int a1), (2, .int a2), (4, .int p38_l4)]) hx hb dX12_falls_69 rfl hl (by decide) rfl (fun ls hl => ?_)
            refine lv_iload_n hx hb dX12_falls_70 rfl (lv_at hl 0 rfl) ?_
            refine lv_bipush (v := 100) hx hb dX12_falls_71 (by decide) ?_
            refine lv_icmp_ne (tgt := 79) hx hb dX12_falls_73 (by decide) (fun c_73 => ?_) (fun c_73 => ?_)
            · simp only [fa_lt, fa_le, fa_eq, li_100] at c_73
              obtain ⟨v79, e_v79⟩ : ∃ y : Int32, y = p38_l4 + 1 := ⟨_, rfl⟩
              refine lv_iinc (v := v79) (lv' := [(4, .int v79), (3, .int v68), (0, .ref a0), (1, .int a1), (2, .int a2)]) hx hb dX12_falls_79 hl (k := 4) rfl e_v79.symm (by decide) rfl (fun ls hl => ?_)
              have e_v79 : v79.toInt = p38_l4.toInt + 1 := ad_i e_v79 rfl li_1 (by omega) (by omega)
              refine lv_goto (tgt := 38) hx hb dX12_falls_82 (by decide) ?_
              exact ih_38 _ _ _ _ (by omega) ⟨w68, v68, v79, hw, hM, (by omega), (by omega), (by omega), (by omega), f_a0_X12_20, f_v30_M_said_10, (lv_sub hl [2, 3, 4, 1, 0] rfl), rfl⟩
            · simp only [fa_lt, fa_le, fa_eq, li_100] at c_73
              refine lv_iload hx hb dX12_falls_76 (lv_at hl 4 rfl) ?_
              rw [hQ]
              refine W.widen (k := 0) (n := 0) (Nat.le_refl _) (Nat.le_refl _) ?_
              exact W.iret (v := p38_l4) hx hb hr (fun t ht hW => ⟨⟨p38_l4, w68, rfl, ⟨(by omega), (by omega), hw.2.2.2.2, hM⟩, by rw [ht]; exact hw.2.1, va_K.moved hW.alike hw.1, hw.2.2.1⟩, hw.2.2.2.1.F ht⟩) hw.2.2.2.1.2.2 dX12_falls_78
          refine lv_icmp_ne (tgt := 67) hx hb dX12_falls_60 (by decide) (fun c_60 => ?_) (fun c_60 => ?_)
          · simp only [fa_lt, fa_le, fa_eq, li_9] at c_60
            refine lv_iconst (v := 0) hx hb dX12_falls_67 (by decide) ?_
            exact J68 _ _ _ w38 0 hw hM (by decide) (by decide) f_a0_X12_20 f_v30_M_said_10 (lv_sub hl [0, 1, 2, 3, 4] rfl)
          · simp only [fa_lt, fa_le, fa_eq, li_9] at c_60
            refine lv_iconst (v := 1) hx hb dX12_falls_63 (by decide) ?_
            refine lv_goto (tgt := 68) hx hb dX12_falls_64 (by decide) ?_
            exact J68 _ _ _ w38 1 hw hM (by decide) (by decide) f_a0_X12_20 f_v30_M_said_10 (lv_sub hl [0, 1, 2, 3, 4] rfl)
      exact J38 _ _ _ _ ⟨w_3, v25, v35, hw, hM, (by omega), (by omega), (by omega), (by omega), f_a0_X12_20, f_v30_M_said_10, (lv_sub hl [2, 3, 4, 1, 0] rfl), rfl⟩
    · simp only [fa_lt, fa_le, fa_eq, li_0] at c_17
      refine lv_iconst (v := (-1)) hx hb dX12_falls_20 (by decide) ?_
      rw [hQ]
      refine W.widen (k := 0) (n := 0) (Nat.le_refl _) (Nat.le_refl _) ?_
      exact W.iret (v := (-1)) hx hb hr (fun t ht hW => ⟨⟨(-1), w_2, rfl, ⟨(by decide), (by decide), hw.2.2.2.2, hM⟩, by rw [ht]; exact hw.2.1, va_K.moved hW.alike hw.1, hw.2.2.1⟩, hw.2.2.2.1.F ht⟩) hw.2.2.2.1.2.2 dX12_falls_21
set_option maxHeartbeats 4000000 in
set_option maxRecDepth 100000 in
theorem t_X12_farm (l : Launch) (dC : Nat → ClassId) (dI : Nat → Nat → Nat) (tys : List (ClassId × FieldType)) (κ : tK) (B : Nat) (ws : va_W) (hT : Ty κ tys B ws) (a0 : Nat) (k_a0 : κ a0 = some 12) (a1 : Int32) (a2 : Int32) (sz : Nat) : Met l yX12_farm (ws_u yX12_farm cX12_farm 3 (some .int)) ({ frames := 1, cells := 0, slots := 0, locals := 25 }) (va_Pc [.ref a0, .int a1, .int a2] (cPre (dC, dI) tys ws sz)) (va_Qi (fun (r : Int32) (w : va_W) => Ty κ tys B w ∧ Sm [] [] κ ws w) (fun w t => cPost (dC, dI) tys w (va_A ws sz) t) (va_A ws sz)) 0 0 (va_A ws sz) := by
  refine Met.ofW (cc := cX12_farm) (maxL := 3) (ret := (some .int)) (by decide) rfl ?_
  intro p e s m args below meth c s₁ B0 hml hv
  obtain ⟨rfl, hsz, hP, hK, hD0, hE⟩ := hv
  have hx := B0.exec
  have hb := B0.bytes
  have hr := B0.returns
  have hts0 := atoms_spec (ws := ws_u yX12_farm cX12_farm 3 (some .int)) B0.pre
  have hts : ∀ w ∈ gT, w.before _ s = true := fun w h => hts0 w (List.mem_cons_of_mem _ h)
  have hown : s.vm.findClass RX12 = some m.cls := findClass_of_methodNamed B0.named
  have hlocks := B0.notSynchronized
  subst hsz
  have hD := hD0.self (sz := s.heap.size)
  generalize hAe : va_A ws s.heap.size = A at hD ⊢
  have hA : ∀ q : Nat, s.heap.size ≤ q → A q := fun q h => by rw [← hAe]; exact Or.inr h
  have hw : tW (dC, dI) tys κ B A s ws s.heap [] := ⟨hK, hP, hD, va_S.rf, hT⟩
  have hM : Sm [] [] κ ws ws := Sm.rf
  clear hP hK hD hD0 hts0
  have l_a1 := i32_lo a1
  have h_a1 := i32_hi a1
  have l_a2 := i32_lo a2
  have h_a2 := i32_hi a2
  have hl := lv_entry ([.ref a0, .int a1, .int a2]) (n := 3) (Nat.le_of_ble_eq_true rfl)
  rw [lg_entry_eq]
  generalize (lg_sl ([.ref a0, .int a1, .int a2]) ++ List.replicate (3 - (lg_sl ([.ref a0, .int a1, .int a2])).length) Slot.unset).toArray = ls at hl ⊢
  have hl : lv_has ls 3 [(0, .ref a0), (1, .int a1), (2, .int a2)] := hl
  refine t_start (fun QQ hQ => ?_)
  refine lv_aload_n hx hb dX12_farm_0 rfl (lv_at hl 0 rfl) ?_
  refine lv_iload_n hx hb dX12_farm_1 rfl (lv_at hl 1 rfl) ?_
  refine t_calli (va_runV (As := [.int a1]) (rest := []) ⟨hx, hb, hml, hown, hts⟩ (t_X12_isFarm l dC dI tys κ B ws hw.2.2.2.2 a0 k_a0 a1 s.heap.size) (cwV 1 hts (gUV tw_1477 tw_1479 ts_5_11 tw_13 tw_1480) rfl rfl rfl (by decide +kernel) ⟨(Nat.le_of_ble_eq_true rfl), (Nat.le_of_ble_eq_true rfl)⟩) ⟨cPre.blind, t_recv hw (ci := 12) k_a0 rfl rfl, cPre.use hw.2.1 hw.1 hw.2.2.1 hE⟩ rfl rfl hl.1 rfl (lv_room (Nat.le_of_ble_eq_true rfl)) dX12_farm_2 ⟨(Nat.le_of_ble_eq_true rfl), (Nat.le_of_ble_eq_true rfl)⟩) hw hA (fun _ _ h => h.2.2.1) (fun v2 w_1 H locs hp hw => ?_)
  obtain ⟨l_v2, h_v2, _, hm, x_v2_0⟩ := hp
  have hM := hM.trans hm (by decide) (by decide)
  refine lv_if_eq (tgt := 20) hx hb dX12_farm_5 (by decide) (fun c_5 => ?_) (fun c_5 => ?_)
  · simp only [fa_lt, fa_le, fa_eq, li_0] at c_5
    refine lv_bipush (v := (-2)) hx hb dX12_farm_20 (by decide) ?_
    rw [hQ]
    refine W.widen (k := 0) (n := 0) (Nat.le_refl _) (Nat.le_refl _) ?_
    exact W.iret (v := (-2)) hx hb hr (fun t ht hW => ⟨⟨(-2), w_1, rfl, ⟨hw.2.2.2.2, hM⟩, by rw [ht]; exact hw.2.1, va_K.moved hW.alike hw.1, hw.2.2.1⟩, hw.2.2.2.1.F ht⟩) hw.2.2.2.1.2.2 dX12_farm_22
  · simp only [fa_lt, fa_le, fa_eq, li_0] at c_5
    refine lv_iload_n hx hb dX12_farm_8 rfl (lv_at hl 2 rfl) ?_
    refine lv_i2l hx hb dX12_farm_9 rfl ?_
    refine lv_topl (fun v9 e_v9 => ?_)
    have t_v9 : v9.toInt = a2.toInt := by rw [e_v9, Int32.toInt_toInt64]
    refine lv_lconst (v := 0) hx hb dX12_farm_10 (by decide) ?_
    obtain ⟨v10, e_v10⟩ : ∃ y : Int64, y = 0 := ⟨_, rfl⟩
    refine W.eq (g2 := F0 m 11 ls [.long v10, .long v9]) (by rw [e_v10]) ?_
    have t_v10 : v10.toInt = 0 := by rw [e_v10]; decide
    refine lv_ldc2 (v := 3) hx hb hown (hts _ tw_1452) dX12_farm_11 ?_
    refine lv_topl (fun v11 e_v11 => ?_)
    have t_v11 : v11.toInt = 3 := by rw [e_v11]; decide
    refine t_calli (va_runS (As := [.long v9, .long v10, .long v11]) (rest := []) ⟨hx, hb, hml, hown, hts⟩ (t_X12_in l dC dI tys κ B w_1 hw.2.2.2.2 v9 v10 v11 H.size) (va_cwS 3 hts (gUS tw_1316 tw_1317 tw_13 tw_1318) rfl rfl rfl (by decide +kernel) ⟨(Nat.le_of_ble_eq_true rfl), (Nat.le_of_ble_eq_true rfl)⟩) ⟨cPre.blind, cPre.use hw.2.1 hw.1 hw.2.2.1 hE⟩ rfl rfl hl.1 rfl (lv_room (Nat.le_of_ble_eq_true rfl)) dX12_farm_14 ⟨(Nat.le_of_ble_eq_true rfl), (Nat.le_of_ble_eq_true rfl)⟩) hw hA (fun _ _ h => h.2.2.1) (fun v14 w_2 H locs hp hw => ?_)
    obtain ⟨l_v14, h_v14, _, hm, x_v14_0⟩ := hp
    have hM := hM.trans hm (by decide) (by decide)
    refine lv_if_ne (tgt := 23) hx hb dX12_farm_17 (by decide) (fun c_17 => ?_) (fun c_17 => ?_)
    · simp only [fa_lt, fa_le, fa_eq, li_0] at c_17
      refine lv_iload_n hx hb dX12_farm_23 rfl (lv_at hl 2 rfl) ?_
      refine lv_iconst (v := 2) hx hb dX12_farm_24 (by decide) ?_
      refine lv_icmp_ge (tgt := 42) hx hb dX12_farm_25 (by decide) (fun c_25 => ?_) (fun c_25 => ?_)
      · simp only [fa_lt, fa_le, fa_eq, li_2] at c_25
        refine lv_iload_n hx hb dX12_farm_42 rfl (lv_at hl 2 rfl) ?_
        refine lv_iconst (v := 2) hx hb dX12_farm_43 (by decide) ?_
        refine lv_icmp_ne (tgt := 57) hx hb dX12_farm_44 (by decide) (fun c_44 => ?_) (fun c_44 => ?_)
        · simp only [fa_lt, fa_le, fa_eq, li_2] at c_44
          refine lv_aload_n hx hb dX12_farm_57 rfl (lv_at hl 0 rfl) ?_
          refine lv_iconst (v := 0) hx hb dX12_farm_58 (by decide) ?_
          refine lv_iload_n hx hb dX12_farm_59 rfl (lv_at hl 1 rfl) ?_
          refine lv_iconst (v := 1) hx hb dX12_farm_60 (by decide) ?_
          refine lv_iadd hx hb dX12_farm_61 ?_
          refine lv_topi (fun v61 e_v61 => ?_)
          have e_v61 : v61.toInt = a1.toInt + 1 := ad_i e_v61 rfl li_1 (by omega) (by omega)
          refine t_calli (va_runV (As := [.int 0, .int v61]) (rest := []) ⟨hx, hb, hml, hown, hts⟩ (t_X12_farOf l dC dI tys κ B w_2 hw.2.2.2.2 a0 k_a0 0 (by decide) (by decide) v61 (by omega) (by omega) H.size) (cwV 2 hts (gUV tw_1428 tw_1430 ts_5_4 tw_13 tw_1431) rfl rfl rfl (by decide +kernel) ⟨(Nat.le_of_ble_eq_true rfl), (Nat.le_of_ble_eq_true rfl)⟩) ⟨cPre.blind, t_recv hw (ci := 12) k_a0 rfl rfl, cPre.use hw.2.1 hw.1 hw.2.2.1 hE⟩ rfl rfl hl.1 rfl (lv_room (Nat.le_of_ble_eq_true rfl)) dX12_farm_62 ⟨(Nat.le_of_ble_eq_true rfl), (Nat.le_of_ble_eq_true rfl)⟩) hw hA (fun _ _ h => h.1) (fun v62 w_3 H locs hp hw => ?_)
          obtain ⟨_, hm⟩ := hp
          have l_v62 := i32_lo v62
          have h_v62 := i32_hi v62
          have hM := hM.trans hm (by decide) (by decide)
          refine lv_sipush (v := 999) hx hb dX12_farm_65 (by decide) ?_
          refine lv_icmp_lt (tgt := 75) hx hb dX12_farm_68 (by decide) (fun c_68 => ?_) (fun c_68 => ?_)
          · simp only [fa_lt, fa_le, fa_eq, li_999] at c_68
            refine lv_aload_n hx hb dX12_farm_75 rfl (lv_at hl 0 rfl) ?_
            refine lv_iconst (v := 0) hx hb dX12_farm_76 (by decide) ?_
            refine lv_iload_n hx hb dX12_farm_77 rfl (lv_at hl 1 rfl) ?_
            refine lv_iconst (v := 1) hx hb dX12_farm_78 (by decide) ?_
            refine lv_iadd hx hb dX12_farm_79 ?_
            refine lv_topi (fun v79 e_v79 => ?_)
            have e_v79 : v79.toInt = a1.toInt + 1 := ad_i e_v79 rfl li_1 (by omega) (by omega)
            refine t_calli (va_runV (As := [.int 0, .int v79]) (rest := []) ⟨hx, hb, hml, hown, hts⟩ (t_X12_farOf l dC dI tys κ B w_3 hw.2.2.2.2 a0 k_a0 0 (by decide) (by decide) v79 (by omega) (by omega) H.size) (cwV 2 hts (gUV tw_1428 tw_1430 ts_5_4 tw_13 tw_1431) rfl rfl rfl (by decide +kernel) ⟨(Nat.le_of_ble_eq_true rfl), (Nat.le_of_ble_eq_true rfl)⟩) ⟨cPre.blind, t_recv hw (ci := 12) k_a0 rfl rfl, cPre.use hw.2.1 hw.1 hw.2.2.1 hE⟩ rfl rfl hl.1 rfl (lv_room (Nat.le_of_ble_eq_true rfl)) dX12_farm_80 ⟨(Nat.le_of_ble_eq_true rfl), (Nat.le_of_ble_eq_true rfl)⟩) hw hA (fun _ _ h => h.1) (fun v80 w_4 H locs hp hw => ?_)
            obtain ⟨_, hm⟩ := hp
            have l_v80 := i32_lo v80
            have h_v80 := i32_hi v80
            have hM := hM.trans hm (by decide) (by decide)
            rw [hQ]
            refine W.widen (k := 0) (n := 0) (Nat.le_refl _) (Nat.le_refl _) ?_
            exact W.iret (v := v80) hx hb hr (fun t ht hW => ⟨⟨v80, w_4, rfl, ⟨hw.2.2.2.2, hM⟩, by rw [ht]; exact hw.2.1, va_K.moved hW.alike hw.1, hw.2.2.1⟩, hw.2.2.2.1.F ht⟩) hw.2.2.2.1.2.2 dX12_farm_83
          · simp only [fa_lt, fa_le, fa_eq, li_999] at c_68
            refine lv_iconst (v := (-1)) hx hb dX12_farm_71 (by decide) ?_
            refine lv_goto (tgt := 83) hx hb dX12_farm_72 (by decide) ?_
            rw [hQ]
            refine W.widen (k := 0) (n := 0) (Nat.le_refl _) (Nat.le_refl _) ?_
            exact W.iret (v := (-1)) hx hb hr (fun t ht hW => ⟨⟨(-1), w_3, rfl, ⟨hw.2.2.2.2, hM⟩, by rw [ht]; exact hw.2.1, va_K.moved hW.alike hw.1, hw.2.2.1⟩, hw.2.2.2.1.F ht⟩) hw.2.2.2.1.2.2 dX12_farm_83
        · simp only [fa_lt, fa_le, fa_eq, li_2] at c_44
          refine lv_aload_n hx hb dX12_farm_47 rfl (lv_at hl 0 rfl) ?_
          refine t_getr (k1 := 63) (ci := 12) (C := RX12) (T := TX12) (N := 38) hx hb hts iX12 hown hw k_a0 rfl rfl rfl 20 (by decide) (hts _ tw_1145) (fun _ h9 => h9) dX12_farm_48 rfl (fun v48 k_v48 f_a0_X12_20 => ?_)
          refine lv_bipush (v := 34) hx hb dX12_farm_51 (by decide) ?_
          refine lv_iload_n hx hb dX12_farm_53 rfl (lv_at hl 1 rfl) ?_
          refine lv_iadd hx hb dX12_farm_54 ?_
          refine lv_topi (fun v54 e_v54 => ?_)
          have e_v54 : v54.toInt = 34 + a1.toInt := ad_i e_v54 li_34 rfl (by omega) (by omega)
          refine t_iald hx hb hw k_v48 rfl rfl (by omega) (show v54.toInt < 306 by omega) dX12_farm_55 (fun v55 r_v55 s_v55 q_v55 => ?_)
          have l_v55 := i32_lo v55
          have h_v55 := i32_hi v55
          rw [hQ]
          refine W.widen (k := 0) (n := 0) (Nat.le_refl _) (Nat.le_refl _) ?_
          exact W.iret (v := v55) hx hb hr (fun t ht hW => ⟨⟨v55, w_2, rfl, ⟨hw.2.2.2.2, hM⟩, by rw [ht]; exact hw.2.1, va_K.moved hW.alike hw.1, hw.2.2.1⟩, hw.2.2.2.1.F ht⟩) hw.2.2.2.1.2.2 dX12_farm_56
      · simp only [fa_lt, fa_le, fa_eq, li_2] at c_25
        refine lv_aload_n hx hb dX12_farm_28 rfl (lv_at hl 0 rfl) ?_
        refine t_getr (k1 := 63) (ci := 12) (C := RX12) (T := TX12) (N := 38) hx hb hts iX12 hown hw k_a0 rfl rfl rfl 20 (by decide) (hts _ tw_1145) (fun _ h9 => h9) dX12_farm_29 rfl (fun v29 k_v29 f_a0_X12_20 => ?_)
        refine lv_bipush (v := 114) hx hb dX12_farm_32 (by decide) ?_
        refine lv_iconst (v := 2) hx hb dX12_farm_34 (by decide) ?_
        refine lv_iload_n hx hb dX12_farm_35 rfl (lv_at hl 1 rfl) ?_
        refine lv_imul hx hb dX12_farm_36 ?_
        refine lv_topi (fun v36 e_v36 => ?_)
        have e_v36 : v36.toInt = 2 * a1.toInt := ml_i e_v36 li_2 rfl (by omega) (by omega)
        refine lv_iadd hx hb dX12_farm_37 ?_
        refine lv_topi (fun v37 e_v37 => ?_)
        have e_v37 : v37.toInt = 114 + v36.toInt := ad_i e_v37 li_114 rfl (by omega) (by omega)
        refine lv_iload_n hx hb dX12_farm_38 rfl (lv_at hl 2 rfl) ?_
        refine lv_iadd hx hb dX12_farm_39 ?_
        refine lv_topi (fun v39 e_v39 => ?_)
        have e_v39 : v39.toInt = v37.toInt + a2.toInt := ad_i e_v39 rfl rfl (by omega) (by omega)
        refine t_iald hx hb hw k_v29 rfl rfl (by omega) (show v39.toInt < 306 by omega) dX12_farm_40 (fun v40 r_v40 s_v40 q_v40 => ?_)
        have l_v40 := i32_lo v40
        have h_v40 := i32_hi v40
        rw [hQ]
        refine W.widen (k := 0) (n := 0) (Nat.le_refl _) (Nat.le_refl _) ?_
        exact W.iret (v := v40) hx hb hr (fun t ht hW => ⟨⟨v40, w_2, rfl, ⟨hw.2.2.2.2, hM⟩, by rw [ht]; exact hw.2.1, va_K.moved hW.alike hw.1, hw.2.2.1⟩, hw.2.2.2.1.F ht⟩) hw.2.2.2.1.2.2 dX12_farm_41
    · simp only [fa_lt, fa_le, fa_eq, li_0] at c_17
      refine lv_bipush (v := (-2)) hx hb dX12_farm_20 (by decide) ?_
      rw [hQ]
      refine W.widen (k := 0) (n := 0) (Nat.le_refl _) (Nat.le_refl _) ?_
      exact W.iret (v := (-2)) hx hb hr (fun t ht hW => ⟨⟨(-2), w_2, rfl, ⟨hw.2.2.2.2, hM⟩, by rw [ht]; exact hw.2.1, va_K.moved hW.alike hw.1, hw.2.2.1⟩, hw.2.2.2.1.F ht⟩) hw.2.2.2.1.2.2 dX12_farm_22
set_option maxHeartbeats 4000000 in
set_option maxRecDepth 100000 in
theorem t_X12_four (l : Launch) (dC : Nat → ClassId) (dI : Nat → Nat → Nat) (tys : List (ClassId × FieldType)) (κ : tK) (B : Nat) (ws : va_W) (hT : Ty κ tys B ws) (a0 : Nat) (k_a0 : κ a0 = some 12) (a1 : Int32) (f0 : Int32) (l_f0 : 0 ≤ f0.toInt) (h_f0 : f0.toInt ≤ 396) (f_a0_X12_1 : fld ws a0 12 1 (.int f0)) (sz : Nat) : Met l yX12_four (ws_u yX12_four cX12_four 3 none) ({ frames := 0, cells := 0, slots := 0, locals := 0 }) (va_Pc [.ref a0, .int a1] (cPre (dC, dI) tys ws sz)) (va_Qv (fun (w : va_W) => Ty κ tys B w ∧ Sm [(12, 1)] [54] κ ws w ∧ (∃ (xt : Int32), 0 ≤ xt.toInt ∧ xt.toInt ≤ 400 ∧ fld w a0 12 1 (.int xt) ∧ xt.toInt = f0.toInt + 4)) (fun w t => cPost (dC, dI) tys w (va_A ws sz) t) (va_A ws sz)) 0 0 (va_A ws sz) := by
  refine Met.ofW (cc := cX12_four) (maxL := 3) (ret := none) (by decide) rfl ?_
  intro p e s m args below meth c s₁ B0 hml hv
  obtain ⟨rfl, hsz, hP, hK, hD0, hE⟩ := hv
  have hx := B0.exec
  have hb := B0.bytes
  have hr := B0.returns
  have hts0 := atoms_spec (ws := ws_u yX12_four cX12_four 3 none) B0.pre
  have hts : ∀ w ∈ gT, w.before _ s = true := fun w h => hts0 w (List.mem_cons_of_mem _ h)
  have hown : s.vm.findClass RX12 = some m.cls := findClass_of_methodNamed B0.named
  have hlocks := B0.notSynchronized
  subst hsz
  have hD := hD0.self (sz := s.heap.size)
  generalize hAe : va_A ws s.heap.size = A at hD ⊢
  have hA : ∀ q : Nat, s.heap.size ≤ q → A q := fun q h => by rw [← hAe]; exact Or.inr h
  have hw : tW (dC, dI) tys κ B A s ws s.heap [] := ⟨hK, hP, hD, va_S.rf, hT⟩
  have hM : Sm [(12, 1)] [54] κ ws ws := Sm.rf
  clear hP hK hD hD0 hts0
  have l_a1 := i32_lo a1
  have h_a1 := i32_hi a1
  have hl := lv_entry ([.ref a0, .int a1]) (n := 3) (Nat.le_of_ble_eq_true rfl)
  rw [lg_entry_eq]
  generalize (lg_sl ([.ref a0, .int a1]) ++ List.replicate (3 - (lg_sl ([.ref a0, .int a1])).length) Slot.unset).toArray = ls at hl ⊢
  have hl : lv_has ls 3 [(0, .ref a0), (1, .int a1)] := hl
  refine t_start (fun QQ hQ => ?_)
  refine lv_bipush (v := 24) hx hb dX12_four_0 (by decide) ?_
  refine lv_istore_n (lv' := [(2, .int 24), (0, .ref a0), (1, .int a1)]) hx hb dX12_four_2 rfl hl (by decide) rfl (fun ls hl => ?_)
  have J3 : ∀ (n : Nat) (H : Heap) (locs : List Loc) (ls : Array Slot), (∃ (w3 : va_W) (p3_l2 : Int32) (p3_m_a0_X12_1 : Int32), tW (dC, dI) tys κ B A s w3 H locs ∧ Sm [(12, 1)] [54] κ ws w3 ∧ (-8) ≤ p3_l2.toInt ∧ p3_l2.toInt ≤ 24 ∧ 0 ≤ p3_m_a0_X12_1.toInt ∧ p3_m_a0_X12_1.toInt ≤ 400 ∧ fld w3 a0 12 1 (.int p3_m_a0_X12_1) ∧ 8 * p3_m_a0_X12_1.toInt + p3_l2.toInt = 8 * f0.toInt + 24 ∧ lv_has ls 3 [(0, .ref a0), (1, .int a1), (2, .int p3_l2)] ∧ (p3_l2.toInt - (-8)).toNat = n) → W p l e (headSpec (ws_u yX12_four cX12_four 3 none) ({ frames := 0, cells := 0, slots := 0, locals := 0 })).room s m ([.ref a0, .int a1] : List Value).toArray below meth c H locs 0 0 QQ (F0 m 3 ls []) := by
    refine loopT _ ?_
    intro n_3 H locs ls hI ih_3
    obtain ⟨w3, p3_l2, p3_m_a0_X12_1, hw, hM, l_p3_l2, h_p3_l2, l_p3_m_a0_X12_1, h_p3_m_a0_X12_1, f_a0_X12_1, li_3_0, hl, hn_3⟩ := hI
    refine lv_iload_n hx hb dX12_four_3 rfl (lv_at hl 2 rfl) ?_
    refine lv_if_lt (tgt := 36) hx hb dX12_four_4 (by decide) (fun c_4 => ?_) (fun c_4 => ?_)
    · simp only [fa_lt, fa_le, fa_eq, li_0] at c_4
      rw [hQ]
      refine W.widen (k := 0) (n := 0) (Nat.le_refl _) (Nat.le_refl _) ?_
      exact W.vret hx hb hr (fun t ht hW => ⟨⟨w3, rfl, ⟨hw.2.2.2.2, hM, ⟨p3_m_a0_X12_1, (by omega), (by omega), f_a0_X12_1, (by omega)⟩⟩, by rw [ht]; exact hw.2.1, va_K.moved hW.alike hw.1, hw.2.2.1⟩, hw.2.2.2.1.F ht⟩) hw.2.2.2.1.2.2 dX12_four_36
    · simp only [fa_lt, fa_le, fa_eq, li_0] at c_4
      refine lv_aload_n hx hb dX12_four_7 rfl (lv_at hl 0 rfl) ?_
      refine t_getr (k1 := 54) (ci := 12) (C := RX12) (T := TX12) (N := 38) hx hb hts iX12 hown hw k_a0 rfl rfl rfl 0 (by decide) (hts _ tw_1125) (fun _ h9 => h9) dX12_four_8 rfl (fun v8 k_v8 f_a0_X12_0 => ?_)
      refine lv_aload_n hx hb dX12_four_11 rfl (lv_at hl 0 rfl) ?_
      refine t_getk (ci := 12) (C := RX12) (T := TX12) (N := 38) hx hb hts iX12 hown hw rfl 1 (by decide) (hts _ tw_1126) (fun _ h9 => h9) dX12_four_12 f_a0_X12_1 ?_
      refine lv_iload_n hx hb dX12_four_15 rfl (lv_at hl 1 rfl) ?_
      refine lv_iload_n hx hb dX12_four_16 rfl (lv_at hl 2 rfl) ?_
      refine lv_ishr hx hb dX12_four_17 ?_
      refine lv_topi (fun v17 e_v17 => ?_)
      have l_v17 := i32_lo v17
      have h_v17 := i32_hi v17
      refine lv_i2b hx hb dX12_four_18 rfl ?_
      refine lv_topi (fun v18 e_v18 => ?_)
      have l_v18 := i32_lo v18
      have h_v18 := i32_hi v18
      refine t_bast hx hb hw k_v8 rfl rfl (by omega) (show p3_m_a0_X12_1.toInt < 400 by omega) (fun _ => rfl) dX12_four_19 (fun w_1 H locs hw u => ?_)
      have hM := hM.up3 u k_v8 (by decide)
      have f_a0_X12_1 := u.1 _ _ _ _ f_a0_X12_1
      have f_a0_X12_0 := u.1 _ _ _ _ f_a0_X12_0
      refine lv_aload_n hx hb dX12_four_20 rfl (lv_at hl 0 rfl) ?_
      refine lv_dup hx hb dX12_four_21 rfl ?_
      refine t_getk (ci := 12) (C := RX12) (T := TX12) (N := 38) hx hb hts iX12 hown hw rfl 1 (by decide) (hts _ tw_1126) (fun _ h9 => h9) dX12_four_22 f_a0_X12_1 ?_
      refine lv_iconst (v := 1) hx hb dX12_four_25 (by decide) ?_
      refine lv_iadd hx hb dX12_four_26 ?_
      refine lv_topi (fun v26 e_v26 => ?_)
      have e_v26 : v26.toInt = p3_m_a0_X12_1.toInt + 1 := ad_i e_v26 rfl li_1 (by omega) (by omega)
      refine t_put (ci := 12) (C := RX12) (T := TX12) (N := 38) (v := .int v26) hx hb hts iX12 tyX12 tyX12_ok nmX12 hown hw k_a0 rfl rfl rfl 1 (by decide) (hts _ tw_1126) (fun _ h9 => h9) rfl (tyX12_ok 1 (by decide)) rfl rfl (okV.int rfl (by omega) (by omega)) dX12_four_27 (fun w_2 H locs hw u => ?_)
      have hM := hM.up1 u (by decide)
      have f_a0_X12_1 := u.2.2
      have f_a0_X12_0 := u.1 _ _ _ _ f_a0_X12_0 (Or.inr (Or.inr (by decide)))
      obtain ⟨v30, e_v30⟩ : ∃ y : Int32, y = p3_l2 + (-8) := ⟨_, rfl⟩
      refine lv_iinc (v := v30) (lv' := [(2, .int v30), (0, .ref a0), (1, .int a1)]) hx hb dX12_four_30 hl (k := 2) rfl e_v30.symm (by decide) rfl (fun ls hl => ?_)
      have e_v30 : v30.toInt = p3_l2.toInt + (-8) := ad_i e_v30 rfl li_m8 (by omega) (by omega)
      refine lv_goto (tgt := 3) hx hb dX12_four_33 (by decide) ?_
      exact ih_3 _ _ _ _ (by omega) ⟨w_2, v30, v26, hw, hM, (by omega), (by omega), (by omega), (by omega), f_a0_X12_1, (by omega), (lv_sub hl [1, 2, 0] rfl), rfl⟩
  exact J3 _ _ _ _ ⟨ws, 24, f0, hw, hM, (by decide), (by decide), (by omega), (by omega), f_a0_X12_1, (by have := li_24; omega), (lv_sub hl [1, 2, 0] rfl), rfl⟩
