theorem d_L_law_23 : decode cL_law 23 = .ok (.iload 4, 2) := by decide +kernel
theorem d_L_law_25 : decode cL_law 25 = .ok (.aload_n 0, 1) := by decide +kernel
theorem d_L_law_26 : decode cL_law 26 = .ok (.arraylength, 1) := by decide +kernel
theorem d_L_law_27 : decode cL_law 27 = .ok (.bipush 6, 2) := by decide +kernel
theorem d_L_law_29 : decode cL_law 29 = .ok (.isub, 1) := by decide +kernel
theorem d_L_law_30 : decode cL_law 30 = .ok (.if_icmp .gt 1807, 3) := by decide +kernel
theorem d_L_law_33 : decode cL_law 33 = .ok (.aload_n 0, 1) := by decide +kernel
theorem d_L_law_34 : decode cL_law 34 = .ok (.iload 4, 2) := by decide +kernel
theorem d_L_law_36 : decode cL_law 36 = .ok (.iaload, 1) := by decide +kernel
theorem d_L_law_37 : decode cL_law 37 = .ok (.bipush 31, 2) := by decide +kernel
theorem d_L_law_39 : decode cL_law 39 = .ok (.iand, 1) := by decide +kernel
theorem d_L_law_40 : decode cL_law 40 = .ok (.tableswitch 1791 0 30 #[140, 213, 269, 325, 338, 394, 462, 530, 598, 678, 734, 814, 870, 938, 1006, 1074, 1130, 1186, 1199, 1262, 1342, 1367, 1435, 1515, 1528, 1584, 1640, 1715, 1728, 1741, 1766], 140) := by decide +kernel
set_option maxRecDepth 100000 in
theorem lb_23 {p : Program} {l : Launch} {e : Env} {s : State} {m : MethodId} {args : Array Value} {below : List Frame} {meth : Method} {c : Code} {D : va_G} {ca : Nat → ClassId} {ad sx sy : Nat → Nat} {A : Nat → Prop} {Q : QT} {b L k : Nat} {xs : Nat → Int32} (hl0 : l.stackTraces = false) (hk : k < 600) (C0 : CX p s m args meth c cL_law 7 yL_law.cls D ca ad A) (hE : EX sx sy A s s.heap) (hr : meth.sig.returnType = some .boolean) (hno : ∀ x ∈ c.exceptionTable.toList, False) (hX : va_X b L xs s s.heap) (hbl : b < s.heap.size) (hbA : ¬ A b) (hL : L < 2147483648) : ∀ ls st M, wpl (LJ p l e s m args below meth c D ca ad A Q k) Q (b_L_law_23 b L xs) ls st M → LH p l e s m args below meth c D ca ad A Q k 23 ls st M := s_il C0 (d_L_law_23) ⟨Nat.le_refl _, Nat.le_refl _⟩ (s_aln C0 (d_L_law_25) ⟨Nat.le_refl _, Nat.le_refl _⟩ (s_scl C0 hX hbl hbA hL (d_L_law_26) ⟨Nat.le_refl _, Nat.le_refl _⟩ (s_bi C0 (d_L_law_27) ⟨Nat.le_refl _, Nat.le_refl _⟩ (s_sub C0 (d_L_law_29) ⟨Nat.le_refl _, Nat.le_refl _⟩ (s_cgt C0 (d_L_law_30) (by decide) ⟨Nat.le_refl _, Nat.le_refl _⟩ ⟨Nat.le_refl _, Nat.le_refl _⟩ (fun _ _ _ h => JW_le gh_le h) (s_aln C0 (d_L_law_33) ⟨Nat.le_refl _, Nat.le_refl _⟩ (s_il C0 (d_L_law_34) ⟨Nat.le_refl _, Nat.le_refl _⟩ (s_scr C0 hX hbl hbA (d_L_law_36) ⟨Nat.le_refl _, Nat.le_refl _⟩ (s_bi C0 (d_L_law_37) ⟨Nat.le_refl _, Nat.le_refl _⟩ (s_and C0 (d_L_law_39) ⟨Nat.le_refl _, Nat.le_refl _⟩ (s_tab C0 (d_L_law_40) (by decide) (by decide) (by decide) (by decide) (fun _ _ => ⟨Nat.le_refl _, Nat.le_refl _⟩) (fun _ _ _ _ _ h => JW_le gh_le h))) (okn rfl) rfl)))))) (okn rfl) rfl)))
theorem wg1348 : Cond.code ⟨"WeighedHallModel", "feed", "(IIIII)I"⟩ prog_13_method_5_code 8 (Option.some .int) ∈ GT := gt_mem 1468 (by decide +kernel) rfl
theorem wg1345 : Cond.methodLink "WeighedHallLaw" 92 ⟨"WeighedHallModel", "feed", "(IIIII)I"⟩ ∈ GT := gt_mem 1465 (by decide +kernel) rfl
theorem wg1346 : Cond.instanceMethod ⟨"WeighedHallModel", "feed", "(IIIII)I"⟩ ∈ GT := gt_mem 1466 (by decide +kernel) rfl
theorem wg1347 : Cond.selects "WeighedHallModel" ⟨"WeighedHallModel", "feed", "(IIIII)I"⟩ ⟨"WeighedHallModel", "feed", "(IIIII)I"⟩ ∈ GT := gt_mem 1467 (by decide +kernel) rfl
theorem wg451 : Cond.code ⟨"WeighedHall", "feed", "(IIIII)I"⟩ prog_1_method_2_code 6 (Option.some .int) ∈ GT := gt_mem 571 (by decide +kernel) rfl
theorem wg448 : Cond.methodLink "WeighedHallLaw" 88 ⟨"WeighedHall", "feed", "(IIIII)I"⟩ ∈ GT := gt_mem 568 (by decide +kernel) rfl
theorem wg449 : Cond.instanceMethod ⟨"WeighedHall", "feed", "(IIIII)I"⟩ ∈ GT := gt_mem 569 (by decide +kernel) rfl
theorem wg450 : Cond.selects "WeighedHall" ⟨"WeighedHall", "feed", "(IIIII)I"⟩ ⟨"WeighedHall", "feed", "(IIIII)I"⟩ ∈ GT := gt_mem 570 (by decide +kernel) rfl
theorem d_L_law_180 : decode cL_law 180 = .ok (.aload_n 1, 1) := by decide +kernel
theorem d_L_law_181 : decode cL_law 181 = .ok (.aload_n 0, 1) := by decide +kernel
theorem d_L_law_182 : decode cL_law 182 = .ok (.iload 4, 2) := by decide +kernel
theorem d_L_law_184 : decode cL_law 184 = .ok (.iconst 1, 1) := by decide +kernel
theorem d_L_law_185 : decode cL_law 185 = .ok (.iadd, 1) := by decide +kernel
theorem d_L_law_186 : decode cL_law 186 = .ok (.iaload, 1) := by decide +kernel
theorem d_L_law_187 : decode cL_law 187 = .ok (.aload_n 0, 1) := by decide +kernel
theorem d_L_law_188 : decode cL_law 188 = .ok (.iload 4, 2) := by decide +kernel
theorem d_L_law_190 : decode cL_law 190 = .ok (.iconst 2, 1) := by decide +kernel
theorem d_L_law_191 : decode cL_law 191 = .ok (.iadd, 1) := by decide +kernel
theorem d_L_law_192 : decode cL_law 192 = .ok (.iaload, 1) := by decide +kernel
theorem d_L_law_193 : decode cL_law 193 = .ok (.aload_n 0, 1) := by decide +kernel
theorem d_L_law_194 : decode cL_law 194 = .ok (.iload 4, 2) := by decide +kernel
theorem d_L_law_196 : decode cL_law 196 = .ok (.iconst 3, 1) := by decide +kernel
theorem d_L_law_197 : decode cL_law 197 = .ok (.iadd, 1) := by decide +kernel
theorem d_L_law_198 : decode cL_law 198 = .ok (.iaload, 1) := by decide +kernel
theorem d_L_law_199 : decode cL_law 199 = .ok (.aload_n 0, 1) := by decide +kernel
theorem d_L_law_200 : decode cL_law 200 = .ok (.iload 4, 2) := by decide +kernel
theorem d_L_law_202 : decode cL_law 202 = .ok (.iconst 4, 1) := by decide +kernel
theorem d_L_law_203 : decode cL_law 203 = .ok (.iadd, 1) := by decide +kernel
theorem d_L_law_204 : decode cL_law 204 = .ok (.iaload, 1) := by decide +kernel
theorem d_L_law_205 : decode cL_law 205 = .ok (.aload_n 0, 1) := by decide +kernel
theorem d_L_law_206 : decode cL_law 206 = .ok (.iload 4, 2) := by decide +kernel
theorem d_L_law_208 : decode cL_law 208 = .ok (.iconst 5, 1) := by decide +kernel
theorem d_L_law_209 : decode cL_law 209 = .ok (.iadd, 1) := by decide +kernel
theorem d_L_law_210 : decode cL_law 210 = .ok (.iaload, 1) := by decide +kernel
theorem d_L_law_211 : decode cL_law 211 = .ok (.invokevirtual 88, 3) := by decide +kernel
theorem d_L_law_214 : decode cL_law 214 = .ok (.aload_n 2, 1) := by decide +kernel
theorem d_L_law_215 : decode cL_law 215 = .ok (.aload_n 0, 1) := by decide +kernel
theorem d_L_law_216 : decode cL_law 216 = .ok (.iload 4, 2) := by decide +kernel
theorem d_L_law_218 : decode cL_law 218 = .ok (.iconst 1, 1) := by decide +kernel
theorem d_L_law_219 : decode cL_law 219 = .ok (.iadd, 1) := by decide +kernel
theorem d_L_law_220 : decode cL_law 220 = .ok (.iaload, 1) := by decide +kernel
theorem d_L_law_221 : decode cL_law 221 = .ok (.aload_n 0, 1) := by decide +kernel
theorem d_L_law_222 : decode cL_law 222 = .ok (.iload 4, 2) := by decide +kernel
theorem d_L_law_224 : decode cL_law 224 = .ok (.iconst 2, 1) := by decide +kernel
theorem d_L_law_225 : decode cL_law 225 = .ok (.iadd, 1) := by decide +kernel
theorem d_L_law_226 : decode cL_law 226 = .ok (.iaload, 1) := by decide +kernel
theorem d_L_law_227 : decode cL_law 227 = .ok (.aload_n 0, 1) := by decide +kernel
theorem d_L_law_228 : decode cL_law 228 = .ok (.iload 4, 2) := by decide +kernel
theorem d_L_law_230 : decode cL_law 230 = .ok (.iconst 3, 1) := by decide +kernel
theorem d_L_law_231 : decode cL_law 231 = .ok (.iadd, 1) := by decide +kernel
theorem d_L_law_232 : decode cL_law 232 = .ok (.iaload, 1) := by decide +kernel
theorem d_L_law_233 : decode cL_law 233 = .ok (.aload_n 0, 1) := by decide +kernel
theorem d_L_law_234 : decode cL_law 234 = .ok (.iload 4, 2) := by decide +kernel
theorem d_L_law_236 : decode cL_law 236 = .ok (.iconst 4, 1) := by decide +kernel
theorem d_L_law_237 : decode cL_law 237 = .ok (.iadd, 1) := by decide +kernel
theorem d_L_law_238 : decode cL_law 238 = .ok (.iaload, 1) := by decide +kernel
theorem d_L_law_239 : decode cL_law 239 = .ok (.aload_n 0, 1) := by decide +kernel
theorem d_L_law_240 : decode cL_law 240 = .ok (.iload 4, 2) := by decide +kernel
theorem d_L_law_242 : decode cL_law 242 = .ok (.iconst 5, 1) := by decide +kernel
theorem d_L_law_243 : decode cL_law 243 = .ok (.iadd, 1) := by decide +kernel
theorem d_L_law_244 : decode cL_law 244 = .ok (.iaload, 1) := by decide +kernel
theorem d_L_law_245 : decode cL_law 245 = .ok (.invokevirtual 92, 3) := by decide +kernel
theorem d_L_law_248 : decode cL_law 248 = .ok (.if_icmp .eq 1583, 3) := by decide +kernel
theorem d_L_law_251 : decode cL_law 251 = .ok (.iconst 0, 1) := by decide +kernel
theorem d_L_law_252 : decode cL_law 252 = .ok (.ireturn, 1) := by decide +kernel
set_option maxRecDepth 100000 in
theorem lb_180 {p : Program} {l : Launch} {e : Env} {s : State} {m : MethodId} {args : Array Value} {below : List Frame} {meth : Method} {c : Code} {D : va_G} {ca : Nat → ClassId} {ad sx sy : Nat → Nat} {A : Nat → Prop} {Q : QT} {b L k : Nat} {xs : Nat → Int32} (hl0 : l.stackTraces = false) (hk : k < 600) (C0 : CX p s m args meth c cL_law 7 yL_law.cls D ca ad A) (hE : EX sx sy A s s.heap) (hr : meth.sig.returnType = some .boolean) (hno : ∀ x ∈ c.exceptionTable.toList, False) (hX : va_X b L xs s s.heap) (hbl : b < s.heap.size) (hbA : ¬ A b) (hL : L < 2147483648) : ∀ ls st M, wpl (LJ p l e s m args below meth c D ca ad A Q k) Q (b_L_law_180 b L xs) ls st M → LJ p l e s m args below meth c D ca ad A Q k 180 ls st M := s_aln C0 (d_L_law_180) (hgl rfl) (s_aln C0 (d_L_law_181) (hgl rfl) (s_il C0 (d_L_law_182) (hgl rfl) (s_ic C0 (d_L_law_184) (hgl rfl) (s_add C0 (d_L_law_185) (hgl rfl) (s_scr C0 hX hbl hbA (d_L_law_186) (hgl rfl) (s_aln C0 (d_L_law_187) (hgl rfl) (s_il C0 (d_L_law_188) (hgl rfl) (s_ic C0 (d_L_law_190) (hgl rfl) (s_add C0 (d_L_law_191) (hgl rfl) (s_scr C0 hX hbl hbA (d_L_law_192) (hgl rfl) (s_aln C0 (d_L_law_193) (hgl rfl) (s_il C0 (d_L_law_194) (hgl rfl) (s_ic C0 (d_L_law_196) (hgl rfl) (s_add C0 (d_L_law_197) (hgl rfl) (s_scr C0 hX hbl hbA (d_L_law_198) (hgl rfl) (s_aln C0 (d_L_law_199) (hgl rfl) (s_il C0 (d_L_law_200) (hgl rfl) (s_ic C0 (d_L_law_202) (hgl rfl) (s_add C0 (d_L_law_203) (hgl rfl) (s_scr C0 hX hbl hbA (d_L_law_204) (hgl rfl) (s_aln C0 (d_L_law_205) (hgl rfl) (s_il C0 (d_L_law_206) (hgl rfl) (s_ic C0 (d_L_law_208) (hgl rfl) (s_add C0 (d_L_law_209) (hgl rfl) (s_scr C0 hX hbl hbA (d_L_law_210) (hgl rfl) (s_callV C0 hE (c_X10_feed l) wg451 wg448 wg449 wg450 wg1 ⟨by decide, by decide⟩ (by decide +kernel) (c0 := 10) rfl ⟨by decide, by decide⟩ (hfl hk rfl) (d_L_law_211) (fun x hx => (hno x hx).elim) (hgc0 rfl) (hfl hk rfl) (s_aln C0 (d_L_law_214) (hgl rfl) (s_aln C0 (d_L_law_215) (hgl rfl) (s_il C0 (d_L_law_216) (hgl rfl) (s_ic C0 (d_L_law_218) (hgl rfl) (s_add C0 (d_L_law_219) (hgl rfl) (s_scr C0 hX hbl hbA (d_L_law_220) (hgl rfl) (s_aln C0 (d_L_law_221) (hgl rfl) (s_il C0 (d_L_law_222) (hgl rfl) (s_ic C0 (d_L_law_224) (hgl rfl) (s_add C0 (d_L_law_225) (hgl rfl) (s_scr C0 hX hbl hbA (d_L_law_226) (hgl rfl) (s_aln C0 (d_L_law_227) (hgl rfl) (s_il C0 (d_L_law_228) (hgl rfl) (s_ic C0 (d_L_law_230) (hgl rfl) (s_add C0 (d_L_law_231) (hgl rfl) (s_scr C0 hX hbl hbA (d_L_law_232) (hgl rfl) (s_aln C0 (d_L_law_233) (hgl rfl) (s_il C0 (d_L_law_234) (hgl rfl) (s_ic C0 (d_L_law_236) (hgl rfl) (s_add C0 (d_L_law_237) (hgl rfl) (s_scr C0 hX hbl hbA (d_L_law_238) (hgl rfl) (s_aln C0 (d_L_law_239) (hgl rfl) (s_il C0 (d_L_law_240) (hgl rfl) (s_ic C0 (d_L_law_242) (hgl rfl) (s_add C0 (d_L_law_243) (hgl rfl) (s_scr C0 hX hbl hbA (d_L_law_244) (hgl rfl) (s_callV C0 hE (c_X11_feed l) wg1348 wg1345 wg1346 wg1347 wg12 ⟨by decide, by decide⟩ (by decide +kernel) (c0 := 11) rfl ⟨by decide, by decide⟩ (hfl hk rfl) (d_L_law_245) (fun x hx => (hno x hx).elim) (hgc0 rfl) (hfl hk rfl) (s_ceq C0 (d_L_law_248) (by decide) (hgl rfl) (hgl rfl) (fun _ _ _ h => h) (s_ic C0 (d_L_law_251) (hgl rfl) (s_rz C0 hr (d_L_law_252) (hfr hk)) (okn rfl)))))) (okn rfl)))))) (okn rfl)))))) (okn rfl)))))) (okn rfl)))))) (okn rfl)))))))) (okn rfl)))))) (okn rfl)))))) (okn rfl)))))) (okn rfl)))))) (okn rfl))))
theorem wg1344 : Cond.code ⟨"WeighedHallModel", "thrown", "()I"⟩ prog_13_method_2_code 1 (Option.some .int) ∈ GT := gt_mem 1464 (by decide +kernel) rfl
theorem wg1341 : Cond.methodLink "WeighedHallLaw" 99 ⟨"WeighedHallModel", "thrown", "()I"⟩ ∈ GT := gt_mem 1461 (by decide +kernel) rfl
theorem wg1342 : Cond.instanceMethod ⟨"WeighedHallModel", "thrown", "()I"⟩ ∈ GT := gt_mem 1462 (by decide +kernel) rfl
theorem wg1343 : Cond.selects "WeighedHallModel" ⟨"WeighedHallModel", "thrown", "()I"⟩ ⟨"WeighedHallModel", "thrown", "()I"⟩ ∈ GT := gt_mem 1463 (by decide +kernel) rfl
theorem wg1352 : Cond.code ⟨"WeighedHallModel", "hall", "(I)I"⟩ prog_13_method_21_code 4 (Option.some .int) ∈ GT := gt_mem 1472 (by decide +kernel) rfl
theorem wg1349 : Cond.methodLink "WeighedHallLaw" 98 ⟨"WeighedHallModel", "hall", "(I)I"⟩ ∈ GT := gt_mem 1469 (by decide +kernel) rfl
theorem wg1350 : Cond.instanceMethod ⟨"WeighedHallModel", "hall", "(I)I"⟩ ∈ GT := gt_mem 1470 (by decide +kernel) rfl
theorem wg1351 : Cond.selects "WeighedHallModel" ⟨"WeighedHallModel", "hall", "(I)I"⟩ ⟨"WeighedHallModel", "hall", "(I)I"⟩ ∈ GT := gt_mem 1471 (by decide +kernel) rfl
theorem wg554 : Cond.codeWith ⟨"WeighedHallLaw", "hall", "(LWeighedHall;I[J)I"⟩ method_3_code 4 (Option.some .int) [(0, 9, 12, 13)] ∈ GT := gt_mem 674 (by decide +kernel) rfl
theorem wg552 : Cond.methodLink "WeighedHallLaw" 93 ⟨"WeighedHallLaw", "hall", "(LWeighedHall;I[J)I"⟩ ∈ GT := gt_mem 672 (by decide +kernel) rfl
theorem wg0 : Cond.initialized "WeighedHallLaw" ∈ GT := gt_mem 120 (by decide +kernel) rfl
theorem wg553 : Cond.static ⟨"WeighedHallLaw", "hall", "(LWeighedHall;I[J)I"⟩ ∈ GT := gt_mem 673 (by decide +kernel) rfl
theorem d_L_law_253 : decode cL_law 253 = .ok (.aload_n 1, 1) := by decide +kernel
theorem d_L_law_254 : decode cL_law 254 = .ok (.aload_n 0, 1) := by decide +kernel
theorem d_L_law_255 : decode cL_law 255 = .ok (.iload 4, 2) := by decide +kernel
theorem d_L_law_257 : decode cL_law 257 = .ok (.iconst 1, 1) := by decide +kernel
theorem d_L_law_258 : decode cL_law 258 = .ok (.iadd, 1) := by decide +kernel
theorem d_L_law_259 : decode cL_law 259 = .ok (.iaload, 1) := by decide +kernel
theorem d_L_law_260 : decode cL_law 260 = .ok (.aload_n 3, 1) := by decide +kernel
theorem d_L_law_261 : decode cL_law 261 = .ok (.invokestatic 93, 3) := by decide +kernel
theorem d_L_law_264 : decode cL_law 264 = .ok (.istore 5, 2) := by decide +kernel
theorem d_L_law_266 : decode cL_law 266 = .ok (.aload_n 2, 1) := by decide +kernel
theorem d_L_law_267 : decode cL_law 267 = .ok (.aload_n 0, 1) := by decide +kernel
theorem d_L_law_268 : decode cL_law 268 = .ok (.iload 4, 2) := by decide +kernel
theorem d_L_law_270 : decode cL_law 270 = .ok (.iconst 1, 1) := by decide +kernel
theorem d_L_law_271 : decode cL_law 271 = .ok (.iadd, 1) := by decide +kernel
theorem d_L_law_272 : decode cL_law 272 = .ok (.iaload, 1) := by decide +kernel
theorem d_L_law_273 : decode cL_law 273 = .ok (.invokevirtual 98, 3) := by decide +kernel
theorem d_L_law_276 : decode cL_law 276 = .ok (.istore 6, 2) := by decide +kernel
theorem d_L_law_278 : decode cL_law 278 = .ok (.aload_n 2, 1) := by decide +kernel
theorem d_L_law_279 : decode cL_law 279 = .ok (.invokevirtual 99, 3) := by decide +kernel
theorem d_L_law_282 : decode cL_law 282 = .ok (.iload 5, 2) := by decide +kernel
theorem d_L_law_284 : decode cL_law 284 = .ok (.if_icmp .eq 5, 3) := by decide +kernel
theorem d_L_law_287 : decode cL_law 287 = .ok (.iconst 0, 1) := by decide +kernel
theorem d_L_law_288 : decode cL_law 288 = .ok (.ireturn, 1) := by decide +kernel
set_option maxRecDepth 100000 in
theorem lb_253 {p : Program} {l : Launch} {e : Env} {s : State} {m : MethodId} {args : Array Value} {below : List Frame} {meth : Method} {c : Code} {D : va_G} {ca : Nat → ClassId} {ad sx sy : Nat → Nat} {A : Nat → Prop} {Q : QT} {b L k : Nat} {xs : Nat → Int32} (hl0 : l.stackTraces = false) (hk : k < 600) (C0 : CX p s m args meth c cL_law 7 yL_law.cls D ca ad A) (hE : EX sx sy A s s.heap) (hr : meth.sig.returnType = some .boolean) (hno : ∀ x ∈ c.exceptionTable.toList, False) (hX : va_X b L xs s s.heap) (hbl : b < s.heap.size) (hbA : ¬ A b) (hL : L < 2147483648) : ∀ ls st M, wpl (LJ p l e s m args below meth c D ca ad A Q k) Q (b_L_law_253 b L xs) ls st M → LJ p l e s m args below meth c D ca ad A Q k 253 ls st M := s_aln C0 (d_L_law_253) (hgl rfl) (s_aln C0 (d_L_law_254) (hgl rfl) (s_il C0 (d_L_law_255) (hgl rfl) (s_ic C0 (d_L_law_257) (hgl rfl) (s_add C0 (d_L_law_258) (hgl rfl) (s_scr C0 hX hbl hbA (d_L_law_259) (hgl rfl) (s_aln C0 (d_L_law_260) (hgl rfl) (s_callSH C0 hE (c_L_hall l hl0) wg554 wg552 wg553 wg0 ⟨by decide, by decide⟩ (by decide +kernel) ⟨by decide, by decide⟩ (hfl hk rfl) (d_L_law_261) (fun x hx => (hno x hx).elim) (hgc rfl rfl rfl) (hfl hk rfl) (s_is C0 (d_L_law_264) (hgl rfl) (s_aln C0 (d_L_law_266) (hgl rfl) (s_aln C0 (d_L_law_267) (hgl rfl) (s_il C0 (d_L_law_268) (hgl rfl) (s_ic C0 (d_L_law_270) (hgl rfl) (s_add C0 (d_L_law_271) (hgl rfl) (s_scr C0 hX hbl hbA (d_L_law_272) (hgl rfl) (s_callV C0 hE (c_X11_hall l) wg1352 wg1349 wg1350 wg1351 wg12 ⟨by decide, by decide⟩ (by decide +kernel) (c0 := 11) rfl ⟨by decide, by decide⟩ (hfl hk rfl) (d_L_law_273) (fun x hx => (hno x hx).elim) (hgc0 rfl) (hfl hk rfl) (s_is C0 (d_L_law_276) (hgl rfl) (s_aln C0 (d_L_law_278) (hgl rfl) (s_callV C0 hE (c_X11_thrown l) wg1344 wg1341 wg1342 wg1343 wg12 ⟨by decide, by decide⟩ (by decide +kernel) (c0 := 11) rfl ⟨by decide, by decide⟩ (hfl hk rfl) (d_L_law_279) (fun x hx => (hno x hx).elim) (hgc0 rfl) (hfl hk rfl) (s_il C0 (d_L_law_282) (hgl rfl) (s_ceq C0 (d_L_law_284) (by decide) (hgl rfl) (hgl rfl) (fun _ _ _ h => h) (s_ic C0 (d_L_law_287) (hgl rfl) (s_rz C0 hr (d_L_law_288) (hfr hk)) (okn rfl)))))))))) (okn rfl)))))))))) (okn rfl))))
theorem d_L_law_289 : decode cL_law 289 = .ok (.iload 5, 2) := by decide +kernel
theorem d_L_law_291 : decode cL_law 291 = .ok (.ifCond .ne 15, 3) := by decide +kernel
theorem d_L_law_294 : decode cL_law 294 = .ok (.aload_n 3, 1) := by decide +kernel
theorem d_L_law_295 : decode cL_law 295 = .ok (.iconst 0, 1) := by decide +kernel
theorem d_L_law_296 : decode cL_law 296 = .ok (.laload, 1) := by decide +kernel
theorem d_L_law_297 : decode cL_law 297 = .ok (.iload 6, 2) := by decide +kernel
theorem d_L_law_299 : decode cL_law 299 = .ok (.i2l, 1) := by decide +kernel
theorem d_L_law_300 : decode cL_law 300 = .ok (.lcmp, 1) := by decide +kernel
theorem d_L_law_301 : decode cL_law 301 = .ok (.ifCond .eq 5, 3) := by decide +kernel
theorem d_L_law_304 : decode cL_law 304 = .ok (.iconst 0, 1) := by decide +kernel
theorem d_L_law_305 : decode cL_law 305 = .ok (.ireturn, 1) := by decide +kernel
set_option maxRecDepth 100000 in
theorem lb_289 {p : Program} {l : Launch} {e : Env} {s : State} {m : MethodId} {args : Array Value} {below : List Frame} {meth : Method} {c : Code} {D : va_G} {ca : Nat → ClassId} {ad sx sy : Nat → Nat} {A : Nat → Prop} {Q : QT} {b L k : Nat} {xs : Nat → Int32} (hl0 : l.stackTraces = false) (hk : k < 600) (C0 : CX p s m args meth c cL_law 7 yL_law.cls D ca ad A) (hE : EX sx sy A s s.heap) (hr : meth.sig.returnType = some .boolean) (hno : ∀ x ∈ c.exceptionTable.toList, False) (hX : va_X b L xs s s.heap) (hbl : b < s.heap.size) (hbA : ¬ A b) (hL : L < 2147483648) : ∀ ls st M, wpl (LJ p l e s m args below meth c D ca ad A Q k) Q (b_L_law_289 b L xs) ls st M → LJ p l e s m args below meth c D ca ad A Q k 289 ls st M := s_il C0 (d_L_law_289) (hgl rfl) (s_zne C0 (d_L_law_291) (by decide) (hgl rfl) (hgl rfl) (fun _ _ _ h => h) (s_aln C0 (d_L_law_294) (hgl rfl) (s_ic C0 (d_L_law_295) (hgl rfl) (s_la C0 (d_L_law_296) (hgl rfl) (s_il C0 (d_L_law_297) (hgl rfl) (s_i2l C0 (d_L_law_299) (hgl rfl) (s_lcmp C0 (d_L_law_300) (hgl rfl) (s_zeq C0 (d_L_law_301) (by decide) (hgl rfl) (hgl rfl) (fun _ _ _ h => h) (s_ic C0 (d_L_law_304) (hgl rfl) (s_rz C0 hr (d_L_law_305) (hfr hk)) (okn rfl))))))) (okn rfl))))
theorem d_L_law_306 : decode cL_law 306 = .ok (.goto 1525, 3) := by decide +kernel
set_option maxRecDepth 100000 in
theorem lb_306 {p : Program} {l : Launch} {e : Env} {s : State} {m : MethodId} {args : Array Value} {below : List Frame} {meth : Method} {c : Code} {D : va_G} {ca : Nat → ClassId} {ad sx sy : Nat → Nat} {A : Nat → Prop} {Q : QT} {b L k : Nat} {xs : Nat → Int32} (hl0 : l.stackTraces = false) (hk : k < 600) (C0 : CX p s m args meth c cL_law 7 yL_law.cls D ca ad A) (hE : EX sx sy A s s.heap) (hr : meth.sig.returnType = some .boolean) (hno : ∀ x ∈ c.exceptionTable.toList, False) (hX : va_X b L xs s s.heap) (hbl : b < s.heap.size) (hbA : ¬ A b) (hL : L < 2147483648) : ∀ ls st M, wpl (LJ p l e s m args below meth c D ca ad A Q k) Q (b_L_law_306 b L xs) ls st M → LJ p l e s m args below meth c D ca ad A Q k 306 ls st M := s_goto C0 (tgt := 1831) (d_L_law_306) (by decide) (hgl rfl) (fun _ _ _ h => h)
theorem wg1426 : Cond.code ⟨"WeighedHallModel", "lend", "(I)I"⟩ prog_13_method_23_code 4 (Option.some .int) ∈ GT := gt_mem 1546 (by decide +kernel) rfl
theorem wg1423 : Cond.methodLink "WeighedHallLaw" 105 ⟨"WeighedHallModel", "lend", "(I)I"⟩ ∈ GT := gt_mem 1543 (by decide +kernel) rfl
theorem wg1424 : Cond.instanceMethod ⟨"WeighedHallModel", "lend", "(I)I"⟩ ∈ GT := gt_mem 1544 (by decide +kernel) rfl
theorem wg1425 : Cond.selects "WeighedHallModel" ⟨"WeighedHallModel", "lend", "(I)I"⟩ ⟨"WeighedHallModel", "lend", "(I)I"⟩ ∈ GT := gt_mem 1545 (by decide +kernel) rfl
theorem wg768 : Cond.codeWith ⟨"WeighedHallLaw", "lend", "(LWeighedHall;I[J)I"⟩ method_4_code 4 (Option.some .int) [(0, 9, 12, 13)] ∈ GT := gt_mem 888 (by decide +kernel) rfl
theorem wg766 : Cond.methodLink "WeighedHallLaw" 103 ⟨"WeighedHallLaw", "lend", "(LWeighedHall;I[J)I"⟩ ∈ GT := gt_mem 886 (by decide +kernel) rfl
theorem wg767 : Cond.static ⟨"WeighedHallLaw", "lend", "(LWeighedHall;I[J)I"⟩ ∈ GT := gt_mem 887 (by decide +kernel) rfl
theorem d_L_law_309 : decode cL_law 309 = .ok (.aload_n 1, 1) := by decide +kernel
theorem d_L_law_310 : decode cL_law 310 = .ok (.aload_n 0, 1) := by decide +kernel
theorem d_L_law_311 : decode cL_law 311 = .ok (.iload 4, 2) := by decide +kernel
theorem d_L_law_313 : decode cL_law 313 = .ok (.iconst 1, 1) := by decide +kernel
theorem d_L_law_314 : decode cL_law 314 = .ok (.iadd, 1) := by decide +kernel
theorem d_L_law_315 : decode cL_law 315 = .ok (.iaload, 1) := by decide +kernel
theorem d_L_law_316 : decode cL_law 316 = .ok (.aload_n 3, 1) := by decide +kernel
theorem d_L_law_317 : decode cL_law 317 = .ok (.invokestatic 103, 3) := by decide +kernel
theorem d_L_law_320 : decode cL_law 320 = .ok (.istore 5, 2) := by decide +kernel
theorem d_L_law_322 : decode cL_law 322 = .ok (.aload_n 2, 1) := by decide +kernel
theorem d_L_law_323 : decode cL_law 323 = .ok (.aload_n 0, 1) := by decide +kernel
theorem d_L_law_324 : decode cL_law 324 = .ok (.iload 4, 2) := by decide +kernel
theorem d_L_law_326 : decode cL_law 326 = .ok (.iconst 1, 1) := by decide +kernel
theorem d_L_law_327 : decode cL_law 327 = .ok (.iadd, 1) := by decide +kernel
theorem d_L_law_328 : decode cL_law 328 = .ok (.iaload, 1) := by decide +kernel
theorem d_L_law_329 : decode cL_law 329 = .ok (.invokevirtual 105, 3) := by decide +kernel
theorem d_L_law_332 : decode cL_law 332 = .ok (.istore 6, 2) := by decide +kernel
theorem d_L_law_334 : decode cL_law 334 = .ok (.aload_n 2, 1) := by decide +kernel
theorem d_L_law_335 : decode cL_law 335 = .ok (.invokevirtual 99, 3) := by decide +kernel
theorem d_L_law_338 : decode cL_law 338 = .ok (.iload 5, 2) := by decide +kernel
theorem d_L_law_340 : decode cL_law 340 = .ok (.if_icmp .eq 5, 3) := by decide +kernel
theorem d_L_law_343 : decode cL_law 343 = .ok (.iconst 0, 1) := by decide +kernel
theorem d_L_law_344 : decode cL_law 344 = .ok (.ireturn, 1) := by decide +kernel
set_option maxRecDepth 100000 in
theorem lb_309 {p : Program} {l : Launch} {e : Env} {s : State} {m : MethodId} {args : Array Value} {below : List Frame} {meth : Method} {c : Code} {D : va_G} {ca : Nat → ClassId} {ad sx sy : Nat → Nat} {A : Nat → Prop} {Q : QT} {b L k : Nat} {xs : Nat → Int32} (hl0 : l.stackTraces = false) (hk : k < 600) (C0 : CX p s m args meth c cL_law 7 yL_law.cls D ca ad A) (hE : EX sx sy A s s.heap) (hr : meth.sig.returnType = some .boolean) (hno : ∀ x ∈ c.exceptionTable.toList, False) (hX : va_X b L xs s s.heap) (hbl : b < s.heap.size) (hbA : ¬ A b) (hL : L < 2147483648) : ∀ ls st M, wpl (LJ p l e s m args below meth c D ca ad A Q k) Q (b_L_law_309 b L xs) ls st M → LJ p l e s m args below meth c D ca ad A Q k 309 ls st M := s_aln C0 (d_L_law_309) (hgl rfl) (s_aln C0 (d_L_law_310) (hgl rfl) (s_il C0 (d_L_law_311) (hgl rfl) (s_ic C0 (d_L_law_313) (hgl rfl) (s_add C0 (d_L_law_314) (hgl rfl) (s_scr C0 hX hbl hbA (d_L_law_315) (hgl rfl) (s_aln C0 (d_L_law_316) (hgl rfl) (s_callSH C0 hE (c_L_lend l hl0) wg768 wg766 wg767 wg0 ⟨by decide, by decide⟩ (by decide +kernel) ⟨by decide, by decide⟩ (hfl hk rfl) (d_L_law_317) (fun x hx => (hno x hx).elim) (hgc rfl rfl rfl) (hfl hk rfl) (s_is C0 (d_L_law_320) (hgl rfl) (s_aln C0 (d_L_law_322) (hgl rfl) (s_aln C0 (d_L_law_323) (hgl rfl) (s_il C0 (d_L_law_324) (hgl rfl) (s_ic C0 (d_L_law_326) (hgl rfl) (s_add C0 (d_L_law_327) (hgl rfl) (s_scr C0 hX hbl hbA (d_L_law_328) (hgl rfl) (s_callV C0 hE (c_X11_lend l) wg1426 wg1423 wg1424 wg1425 wg12 ⟨by decide, by decide⟩ (by decide +kernel) (c0 := 11) rfl ⟨by decide, by decide⟩ (hfl hk rfl) (d_L_law_329) (fun x hx => (hno x hx).elim) (hgc0 rfl) (hfl hk rfl) (s_is C0 (d_L_law_332) (hgl rfl) (s_aln C0 (d_L_law_334) (hgl rfl) (s_callV C0 hE (c_X11_thrown l) wg1344 wg1341 wg1342 wg1343 wg12 ⟨by decide, by decide⟩ (by decide +kernel) (c0 := 11) rfl ⟨by decide, by decide⟩ (hfl hk rfl) (d_L_law_335) (fun x hx => (hno x hx).elim) (hgc0 rfl) (hfl hk rfl) (s_il C0 (d_L_law_338) (hgl rfl) (s_ceq C0 (d_L_law_340) (by decide) (hgl rfl) (hgl rfl) (fun _ _ _ h => h) (s_ic C0 (d_L_law_343) (hgl rfl) (s_rz C0 hr (d_L_law_344) (hfr hk)) (okn rfl)))))))))) (okn rfl)))))))))) (okn rfl))))
theorem d_L_law_345 : decode cL_law 345 = .ok (.iload 5, 2) := by decide +kernel
theorem d_L_law_347 : decode cL_law 347 = .ok (.ifCond .ne 15, 3) := by decide +kernel
theorem d_L_law_350 : decode cL_law 350 = .ok (.aload_n 3, 1) := by decide +kernel
theorem d_L_law_351 : decode cL_law 351 = .ok (.iconst 0, 1) := by decide +kernel
theorem d_L_law_352 : decode cL_law 352 = .ok (.laload, 1) := by decide +kernel
theorem d_L_law_353 : decode cL_law 353 = .ok (.iload 6, 2) := by decide +kernel
theorem d_L_law_355 : decode cL_law 355 = .ok (.i2l, 1) := by decide +kernel
theorem d_L_law_356 : decode cL_law 356 = .ok (.lcmp, 1) := by decide +kernel
theorem d_L_law_357 : decode cL_law 357 = .ok (.ifCond .eq 5, 3) := by decide +kernel
theorem d_L_law_360 : decode cL_law 360 = .ok (.iconst 0, 1) := by decide +kernel
theorem d_L_law_361 : decode cL_law 361 = .ok (.ireturn, 1) := by decide +kernel
set_option maxRecDepth 100000 in
theorem lb_345 {p : Program} {l : Launch} {e : Env} {s : State} {m : MethodId} {args : Array Value} {below : List Frame} {meth : Method} {c : Code} {D : va_G} {ca : Nat → ClassId} {ad sx sy : Nat → Nat} {A : Nat → Prop} {Q : QT} {b L k : Nat} {xs : Nat → Int32} (hl0 : l.stackTraces = false) (hk : k < 600) (C0 : CX p s m args meth c cL_law 7 yL_law.cls D ca ad A) (hE : EX sx sy A s s.heap) (hr : meth.sig.returnType = some .boolean) (hno : ∀ x ∈ c.exceptionTable.toList, False) (hX : va_X b L xs s s.heap) (hbl : b < s.heap.size) (hbA : ¬ A b) (hL : L < 2147483648) : ∀ ls st M, wpl (LJ p l e s m args below meth c D ca ad A Q k) Q (b_L_law_345 b L xs) ls st M → LJ p l e s m args below meth c D ca ad A Q k 345 ls st M := s_il C0 (d_L_law_345) (hgl rfl) (s_zne C0 (d_L_law_347) (by decide) (hgl rfl) (hgl rfl) (fun _ _ _ h => h) (s_aln C0 (d_L_law_350) (hgl rfl) (s_ic C0 (d_L_law_351) (hgl rfl) (s_la C0 (d_L_law_352) (hgl rfl) (s_il C0 (d_L_law_353) (hgl rfl) (s_i2l C0 (d_L_law_355) (hgl rfl) (s_lcmp C0 (d_L_law_356) (hgl rfl) (s_zeq C0 (d_L_law_357) (by decide) (hgl rfl) (hgl rfl) (fun _ _ _ h => h) (s_ic C0 (d_L_law_360) (hgl rfl) (s_rz C0 hr (d_L_law_361) (hfr hk)) (okn rfl))))))) (okn rfl))))
theorem d_L_law_362 : decode cL_law 362 = .ok (.goto 1469, 3) := by decide +kernel
set_option maxRecDepth 100000 in
theorem lb_362 {p : Program} {l : Launch} {e : Env} {s : State} {m : MethodId} {args : Array Value} {below : List Frame} {meth : Method} {c : Code} {D : va_G} {ca : Nat → ClassId} {ad sx sy : Nat → Nat} {A : Nat → Prop} {Q : QT} {b L k : Nat} {xs : Nat → Int32} (hl0 : l.stackTraces = false) (hk : k < 600) (C0 : CX p s m args meth c cL_law 7 yL_law.cls D ca ad A) (hE : EX sx sy A s s.heap) (hr : meth.sig.returnType = some .boolean) (hno : ∀ x ∈ c.exceptionTable.toList, False) (hX : va_X b L xs s s.heap) (hbl : b < s.heap.size) (hbA : ¬ A b) (hL : L < 2147483648) : ∀ ls st M, wpl (LJ p l e s m args below meth c D ca ad A Q k) Q (b_L_law_362 b L xs) ls st M → LJ p l e s m args below meth c D ca ad A Q k 362 ls st M := s_goto C0 (tgt := 1831) (d_L_law_362) (by decide) (hgl rfl) (fun _ _ _ h => h)
theorem wg1434 : Cond.code ⟨"WeighedHallModel", "fault", "()I"⟩ prog_13_method_24_code 1 (Option.some .int) ∈ GT := gt_mem 1554 (by decide +kernel) rfl
theorem wg1431 : Cond.methodLink "WeighedHallLaw" 109 ⟨"WeighedHallModel", "fault", "()I"⟩ ∈ GT := gt_mem 1551 (by decide +kernel) rfl
theorem wg1432 : Cond.instanceMethod ⟨"WeighedHallModel", "fault", "()I"⟩ ∈ GT := gt_mem 1552 (by decide +kernel) rfl
theorem wg1433 : Cond.selects "WeighedHallModel" ⟨"WeighedHallModel", "fault", "()I"⟩ ⟨"WeighedHallModel", "fault", "()I"⟩ ∈ GT := gt_mem 1553 (by decide +kernel) rfl
theorem wg459 : Cond.code ⟨"WeighedHall", "fault", "()I"⟩ prog_1_method_5_code 1 (Option.some .int) ∈ GT := gt_mem 579 (by decide +kernel) rfl
theorem wg456 : Cond.methodLink "WeighedHallLaw" 106 ⟨"WeighedHall", "fault", "()I"⟩ ∈ GT := gt_mem 576 (by decide +kernel) rfl
theorem wg457 : Cond.instanceMethod ⟨"WeighedHall", "fault", "()I"⟩ ∈ GT := gt_mem 577 (by decide +kernel) rfl
theorem wg458 : Cond.selects "WeighedHall" ⟨"WeighedHall", "fault", "()I"⟩ ⟨"WeighedHall", "fault", "()I"⟩ ∈ GT := gt_mem 578 (by decide +kernel) rfl
theorem d_L_law_365 : decode cL_law 365 = .ok (.aload_n 1, 1) := by decide +kernel
theorem d_L_law_366 : decode cL_law 366 = .ok (.invokevirtual 106, 3) := by decide +kernel
theorem d_L_law_369 : decode cL_law 369 = .ok (.aload_n 2, 1) := by decide +kernel
theorem d_L_law_370 : decode cL_law 370 = .ok (.invokevirtual 109, 3) := by decide +kernel
theorem d_L_law_373 : decode cL_law 373 = .ok (.if_icmp .eq 1458, 3) := by decide +kernel
theorem d_L_law_376 : decode cL_law 376 = .ok (.iconst 0, 1) := by decide +kernel
theorem d_L_law_377 : decode cL_law 377 = .ok (.ireturn, 1) := by decide +kernel
set_option maxRecDepth 100000 in
theorem lb_365 {p : Program} {l : Launch} {e : Env} {s : State} {m : MethodId} {args : Array Value} {below : List Frame} {meth : Method} {c : Code} {D : va_G} {ca : Nat → ClassId} {ad sx sy : Nat → Nat} {A : Nat → Prop} {Q : QT} {b L k : Nat} {xs : Nat → Int32} (hl0 : l.stackTraces = false) (hk : k < 600) (C0 : CX p s m args meth c cL_law 7 yL_law.cls D ca ad A) (hE : EX sx sy A s s.heap) (hr : meth.sig.returnType = some .boolean) (hno : ∀ x ∈ c.exceptionTable.toList, False) (hX : va_X b L xs s s.heap) (hbl : b < s.heap.size) (hbA : ¬ A b) (hL : L < 2147483648) : ∀ ls st M, wpl (LJ p l e s m args below meth c D ca ad A Q k) Q (b_L_law_365 b L xs) ls st M → LJ p l e s m args below meth c D ca ad A Q k 365 ls st M := s_aln C0 (d_L_law_365) (hgl rfl) (s_callV C0 hE (c_X10_fault l) wg459 wg456 wg457 wg458 wg1 ⟨by decide, by decide⟩ (by decide +kernel) (c0 := 10) rfl ⟨by decide, by decide⟩ (hfl hk rfl) (d_L_law_366) (fun x hx => (hno x hx).elim) (hgc0 rfl) (hfl hk rfl) (s_aln C0 (d_L_law_369) (hgl rfl) (s_callV C0 hE (c_X11_fault l) wg1434 wg1431 wg1432 wg1433 wg12 ⟨by decide, by decide⟩ (by decide +kernel) (c0 := 11) rfl ⟨by decide, by decide⟩ (hfl hk rfl) (d_L_law_370) (fun x hx => (hno x hx).elim) (hgc0 rfl) (hfl hk rfl) (s_ceq C0 (d_L_law_373) (by decide) (hgl rfl) (hgl rfl) (fun _ _ _ h => h) (s_ic C0 (d_L_law_376) (hgl rfl) (s_rz C0 hr (d_L_law_377) (hfr hk)) (okn rfl))))))
theorem wg1438 : Cond.code ⟨"WeighedHallModel", "told", "(I)I"⟩ prog_13_method_25_code 2 (Option.some .int) ∈ GT := gt_mem 1558 (by decide +kernel) rfl
theorem wg1435 : Cond.methodLink "WeighedHallLaw" 112 ⟨"WeighedHallModel", "told", "(I)I"⟩ ∈ GT := gt_mem 1555 (by decide +kernel) rfl
theorem wg1436 : Cond.instanceMethod ⟨"WeighedHallModel", "told", "(I)I"⟩ ∈ GT := gt_mem 1556 (by decide +kernel) rfl
theorem wg1437 : Cond.selects "WeighedHallModel" ⟨"WeighedHallModel", "told", "(I)I"⟩ ⟨"WeighedHallModel", "told", "(I)I"⟩ ∈ GT := gt_mem 1557 (by decide +kernel) rfl
theorem wg795 : Cond.codeWith ⟨"WeighedHallLaw", "told", "(LWeighedHall;I[J)I"⟩ method_5_code 4 (Option.some .int) [(0, 9, 12, 13)] ∈ GT := gt_mem 915 (by decide +kernel) rfl
theorem wg793 : Cond.methodLink "WeighedHallLaw" 110 ⟨"WeighedHallLaw", "told", "(LWeighedHall;I[J)I"⟩ ∈ GT := gt_mem 913 (by decide +kernel) rfl
theorem wg794 : Cond.static ⟨"WeighedHallLaw", "told", "(LWeighedHall;I[J)I"⟩ ∈ GT := gt_mem 914 (by decide +kernel) rfl
theorem d_L_law_378 : decode cL_law 378 = .ok (.aload_n 1, 1) := by decide +kernel
theorem d_L_law_379 : decode cL_law 379 = .ok (.aload_n 0, 1) := by decide +kernel
theorem d_L_law_380 : decode cL_law 380 = .ok (.iload 4, 2) := by decide +kernel
theorem d_L_law_382 : decode cL_law 382 = .ok (.iconst 1, 1) := by decide +kernel
theorem d_L_law_383 : decode cL_law 383 = .ok (.iadd, 1) := by decide +kernel
theorem d_L_law_384 : decode cL_law 384 = .ok (.iaload, 1) := by decide +kernel
theorem d_L_law_385 : decode cL_law 385 = .ok (.aload_n 3, 1) := by decide +kernel
theorem d_L_law_386 : decode cL_law 386 = .ok (.invokestatic 110, 3) := by decide +kernel
theorem d_L_law_389 : decode cL_law 389 = .ok (.istore 5, 2) := by decide +kernel
theorem d_L_law_391 : decode cL_law 391 = .ok (.aload_n 2, 1) := by decide +kernel
theorem d_L_law_392 : decode cL_law 392 = .ok (.aload_n 0, 1) := by decide +kernel
theorem d_L_law_393 : decode cL_law 393 = .ok (.iload 4, 2) := by decide +kernel
theorem d_L_law_395 : decode cL_law 395 = .ok (.iconst 1, 1) := by decide +kernel
theorem d_L_law_396 : decode cL_law 396 = .ok (.iadd, 1) := by decide +kernel
theorem d_L_law_397 : decode cL_law 397 = .ok (.iaload, 1) := by decide +kernel
theorem d_L_law_398 : decode cL_law 398 = .ok (.invokevirtual 112, 3) := by decide +kernel
theorem d_L_law_401 : decode cL_law 401 = .ok (.istore 6, 2) := by decide +kernel
theorem d_L_law_403 : decode cL_law 403 = .ok (.aload_n 2, 1) := by decide +kernel
theorem d_L_law_404 : decode cL_law 404 = .ok (.invokevirtual 99, 3) := by decide +kernel
theorem d_L_law_407 : decode cL_law 407 = .ok (.iload 5, 2) := by decide +kernel
theorem d_L_law_409 : decode cL_law 409 = .ok (.if_icmp .eq 5, 3) := by decide +kernel
theorem d_L_law_412 : decode cL_law 412 = .ok (.iconst 0, 1) := by decide +kernel
theorem d_L_law_413 : decode cL_law 413 = .ok (.ireturn, 1) := by decide +kernel
set_option maxRecDepth 100000 in
theorem lb_378 {p : Program} {l : Launch} {e : Env} {s : State} {m : MethodId} {args : Array Value} {below : List Frame} {meth : Method} {c : Code} {D : va_G} {ca : Nat → ClassId} {ad sx sy : Nat → Nat} {A : Nat → Prop} {Q : QT} {b L k : Nat} {xs : Nat → Int32} (hl0 : l.stackTraces = false) (hk : k < 600) (C0 : CX p s m args meth c cL_law 7 yL_law.cls D ca ad A) (hE : EX sx sy A s s.heap) (hr : meth.sig.returnType = some .boolean) (hno : ∀ x ∈ c.exceptionTable.toList, False) (hX : va_X b L xs s s.heap) (hbl : b < s.heap.size) (hbA : ¬ A b) (hL : L < 2147483648) : ∀ ls st M, wpl (LJ p l e s m args below meth c D ca ad A Q k) Q (b_L_law_378 b L xs) ls st M → LJ p l e s m args below meth c D ca ad A Q k 378 ls st M := s_aln C0 (d_L_law_378) (hgl rfl) (s_aln C0 (d_L_law_379) (hgl rfl) (s_il C0 (d_L_law_380) (hgl rfl) (s_ic C0 (d_L_law_382) (hgl rfl) (s_add C0 (d_L_law_383) (hgl rfl) (s_scr C0 hX hbl hbA (d_L_law_384) (hgl rfl) (s_aln C0 (d_L_law_385) (hgl rfl) (s_callSH C0 hE (c_L_told l hl0) wg795 wg793 wg794 wg0 ⟨by decide, by decide⟩ (by decide +kernel) ⟨by decide, by decide⟩ (hfl hk rfl) (d_L_law_386) (fun x hx => (hno x hx).elim) (hgc rfl rfl rfl) (hfl hk rfl) (s_is C0 (d_L_law_389) (hgl rfl) (s_aln C0 (d_L_law_391) (hgl rfl) (s_aln C0 (d_L_law_392) (hgl rfl) (s_il C0 (d_L_law_393) (hgl rfl) (s_ic C0 (d_L_law_395) (hgl rfl) (s_add C0 (d_L_law_396) (hgl rfl) (s_scr C0 hX hbl hbA (d_L_law_397) (hgl rfl) (s_callV C0 hE (c_X11_told l) wg1438 wg1435 wg1436 wg1437 wg12 ⟨by decide, by decide⟩ (by decide +kernel) (c0 := 11) rfl ⟨by decide, by decide⟩ (hfl hk rfl) (d_L_law_398) (fun x hx => (hno x hx).elim) (hgc0 rfl) (hfl hk rfl) (s_is C0 (d_L_law_401) (hgl rfl) (s_aln C0 (d_L_law_403) (hgl rfl) (s_callV C0 hE (c_X11_thrown l) wg1344 wg1341 wg1342 wg1343 wg12 ⟨by decide, by decide⟩ (by decide +kernel) (c0 := 11) rfl ⟨by decide, by decide⟩ (hfl hk rfl) (d_L_law_404) (fun x hx => (hno x hx).elim) (hgc0 rfl) (hfl hk rfl) (s_il C0 (d_L_law_407) (hgl rfl) (s_ceq C0 (d_L_law_409) (by decide) (hgl rfl) (hgl rfl) (fun _ _ _ h => h) (s_ic C0 (d_L_law_412) (hgl rfl) (s_rz C0 hr (d_L_law_413) (hfr hk)) (okn rfl)))))))))) (okn rfl)))))))))) (okn rfl))))
theorem d_L_law_414 : decode cL_law 414 = .ok (.iload 5, 2) := by decide +kernel
theorem d_L_law_416 : decode cL_law 416 = .ok (.ifCond .ne 15, 3) := by decide +kernel
theorem d_L_law_419 : decode cL_law 419 = .ok (.aload_n 3, 1) := by decide +kernel
theorem d_L_law_420 : decode cL_law 420 = .ok (.iconst 0, 1) := by decide +kernel
theorem d_L_law_421 : decode cL_law 421 = .ok (.laload, 1) := by decide +kernel
theorem d_L_law_422 : decode cL_law 422 = .ok (.iload 6, 2) := by decide +kernel
theorem d_L_law_424 : decode cL_law 424 = .ok (.i2l, 1) := by decide +kernel
theorem d_L_law_425 : decode cL_law 425 = .ok (.lcmp, 1) := by decide +kernel
theorem d_L_law_426 : decode cL_law 426 = .ok (.ifCond .eq 5, 3) := by decide +kernel
theorem d_L_law_429 : decode cL_law 429 = .ok (.iconst 0, 1) := by decide +kernel
theorem d_L_law_430 : decode cL_law 430 = .ok (.ireturn, 1) := by decide +kernel
set_option maxRecDepth 100000 in
theorem lb_414 {p : Program} {l : Launch} {e : Env} {s : State} {m : MethodId} {args : Array Value} {below : List Frame} {meth : Method} {c : Code} {D : va_G} {ca : Nat → ClassId} {ad sx sy : Nat → Nat} {A : Nat → Prop} {Q : QT} {b L k : Nat} {xs : Nat → Int32} (hl0 : l.stackTraces = false) (hk : k < 600) (C0 : CX p s m args meth c cL_law 7 yL_law.cls D ca ad A) (hE : EX sx sy A s s.heap) (hr : meth.sig.returnType = some .boolean) (hno : ∀ x ∈ c.exceptionTable.toList, False) (hX : va_X b L xs s s.heap) (hbl : b < s.heap.size) (hbA : ¬ A b) (hL : L < 2147483648) : ∀ ls st M, wpl (LJ p l e s m args below meth c D ca ad A Q k) Q (b_L_law_414 b L xs) ls st M → LJ p l e s m args below meth c D ca ad A Q k 414 ls st M := s_il C0 (d_L_law_414) (hgl rfl) (s_zne C0 (d_L_law_416) (by decide) (hgl rfl) (hgl rfl) (fun _ _ _ h => h) (s_aln C0 (d_L_law_419) (hgl rfl) (s_ic C0 (d_L_law_420) (hgl rfl) (s_la C0 (d_L_law_421) (hgl rfl) (s_il C0 (d_L_law_422) (hgl rfl) (s_i2l C0 (d_L_law_424) (hgl rfl) (s_lcmp C0 (d_L_law_425) (hgl rfl) (s_zeq C0 (d_L_law_426) (by decide) (hgl rfl) (hgl rfl) (fun _ _ _ h => h) (s_ic C0 (d_L_law_429) (hgl rfl) (s_rz C0 hr (d_L_law_430) (hfr hk)) (okn rfl))))))) (okn rfl))))
theorem d_L_law_431 : decode cL_law 431 = .ok (.goto 1400, 3) := by decide +kernel
set_option maxRecDepth 100000 in
theorem lb_431 {p : Program} {l : Launch} {e : Env} {s : State} {m : MethodId} {args : Array Value} {below : List Frame} {meth : Method} {c : Code} {D : va_G} {ca : Nat → ClassId} {ad sx sy : Nat → Nat} {A : Nat → Prop} {Q : QT} {b L k : Nat} {xs : Nat → Int32} (hl0 : l.stackTraces = false) (hk : k < 600) (C0 : CX p s m args meth c cL_law 7 yL_law.cls D ca ad A) (hE : EX sx sy A s s.heap) (hr : meth.sig.returnType = some .boolean) (hno : ∀ x ∈ c.exceptionTable.toList, False) (hX : va_X b L xs s s.heap) (hbl : b < s.heap.size) (hbA : ¬ A b) (hL : L < 2147483648) : ∀ ls st M, wpl (LJ p l e s m args below meth c D ca ad A Q k) Q (b_L_law_431 b L xs) ls st M → LJ p l e s m args below meth c D ca ad A Q k 431 ls st M := s_goto C0 (tgt := 1831) (d_L_law_431) (by decide) (hgl rfl) (fun _ _ _ h => h)
theorem wg1442 : Cond.code ⟨"WeighedHallModel", "person", "(II)I"⟩ prog_13_method_30_code 3 (Option.some .int) ∈ GT := gt_mem 1562 (by decide +kernel) rfl
theorem wg1439 : Cond.methodLink "WeighedHallLaw" 116 ⟨"WeighedHallModel", "person", "(II)I"⟩ ∈ GT := gt_mem 1559 (by decide +kernel) rfl
theorem wg1440 : Cond.instanceMethod ⟨"WeighedHallModel", "person", "(II)I"⟩ ∈ GT := gt_mem 1560 (by decide +kernel) rfl
theorem wg1441 : Cond.selects "WeighedHallModel" ⟨"WeighedHallModel", "person", "(II)I"⟩ ⟨"WeighedHallModel", "person", "(II)I"⟩ ∈ GT := gt_mem 1561 (by decide +kernel) rfl
theorem wg802 : Cond.codeWith ⟨"WeighedHallLaw", "person", "(LWeighedHall;II[J)I"⟩ method_6_code 5 (Option.some .int) [(0, 10, 13, 25), (0, 10, 17, 13)] ∈ GT := gt_mem 922 (by decide +kernel) rfl
theorem wg800 : Cond.methodLink "WeighedHallLaw" 113 ⟨"WeighedHallLaw", "person", "(LWeighedHall;II[J)I"⟩ ∈ GT := gt_mem 920 (by decide +kernel) rfl
theorem wg801 : Cond.static ⟨"WeighedHallLaw", "person", "(LWeighedHall;II[J)I"⟩ ∈ GT := gt_mem 921 (by decide +kernel) rfl
theorem d_L_law_434 : decode cL_law 434 = .ok (.aload_n 1, 1) := by decide +kernel
theorem d_L_law_435 : decode cL_law 435 = .ok (.aload_n 0, 1) := by decide +kernel
theorem d_L_law_436 : decode cL_law 436 = .ok (.iload 4, 2) := by decide +kernel
theorem d_L_law_438 : decode cL_law 438 = .ok (.iconst 1, 1) := by decide +kernel
theorem d_L_law_439 : decode cL_law 439 = .ok (.iadd, 1) := by decide +kernel
theorem d_L_law_440 : decode cL_law 440 = .ok (.iaload, 1) := by decide +kernel
theorem d_L_law_441 : decode cL_law 441 = .ok (.aload_n 0, 1) := by decide +kernel
theorem d_L_law_442 : decode cL_law 442 = .ok (.iload 4, 2) := by decide +kernel
theorem d_L_law_444 : decode cL_law 444 = .ok (.iconst 2, 1) := by decide +kernel
theorem d_L_law_445 : decode cL_law 445 = .ok (.iadd, 1) := by decide +kernel
theorem d_L_law_446 : decode cL_law 446 = .ok (.iaload, 1) := by decide +kernel
theorem d_L_law_447 : decode cL_law 447 = .ok (.aload_n 3, 1) := by decide +kernel
theorem d_L_law_448 : decode cL_law 448 = .ok (.invokestatic 113, 3) := by decide +kernel
theorem d_L_law_451 : decode cL_law 451 = .ok (.istore 5, 2) := by decide +kernel
theorem d_L_law_453 : decode cL_law 453 = .ok (.aload_n 2, 1) := by decide +kernel
theorem d_L_law_454 : decode cL_law 454 = .ok (.aload_n 0, 1) := by decide +kernel
theorem d_L_law_455 : decode cL_law 455 = .ok (.iload 4, 2) := by decide +kernel
theorem d_L_law_457 : decode cL_law 457 = .ok (.iconst 1, 1) := by decide +kernel
theorem d_L_law_458 : decode cL_law 458 = .ok (.iadd, 1) := by decide +kernel
theorem d_L_law_459 : decode cL_law 459 = .ok (.iaload, 1) := by decide +kernel
theorem d_L_law_460 : decode cL_law 460 = .ok (.aload_n 0, 1) := by decide +kernel
theorem d_L_law_461 : decode cL_law 461 = .ok (.iload 4, 2) := by decide +kernel
theorem d_L_law_463 : decode cL_law 463 = .ok (.iconst 2, 1) := by decide +kernel
theorem d_L_law_464 : decode cL_law 464 = .ok (.iadd, 1) := by decide +kernel
theorem d_L_law_465 : decode cL_law 465 = .ok (.iaload, 1) := by decide +kernel
theorem d_L_law_466 : decode cL_law 466 = .ok (.invokevirtual 116, 3) := by decide +kernel
theorem d_L_law_469 : decode cL_law 469 = .ok (.istore 6, 2) := by decide +kernel
theorem d_L_law_471 : decode cL_law 471 = .ok (.aload_n 2, 1) := by decide +kernel
theorem d_L_law_472 : decode cL_law 472 = .ok (.invokevirtual 99, 3) := by decide +kernel
theorem d_L_law_475 : decode cL_law 475 = .ok (.iload 5, 2) := by decide +kernel
theorem d_L_law_477 : decode cL_law 477 = .ok (.if_icmp .eq 5, 3) := by decide +kernel
theorem d_L_law_480 : decode cL_law 480 = .ok (.iconst 0, 1) := by decide +kernel
theorem d_L_law_481 : decode cL_law 481 = .ok (.ireturn, 1) := by decide +kernel
set_option maxRecDepth 100000 in
theorem lb_434 {p : Program} {l : Launch} {e : Env} {s : State} {m : MethodId} {args : Array Value} {below : List Frame} {meth : Method} {c : Code} {D : va_G} {ca : Nat → ClassId} {ad sx sy : Nat → Nat} {A : Nat → Prop} {Q : QT} {b L k : Nat} {xs : Nat → Int32} (hl0 : l.stackTraces = false) (hk : k < 600) (C0 : CX p s m args meth c cL_law 7 yL_law.cls D ca ad A) (hE : EX sx sy A s s.heap) (hr : meth.sig.returnType = some .boolean) (hno : ∀ x ∈ c.exceptionTable.toList, False) (hX : va_X b L xs s s.heap) (hbl : b < s.heap.size) (hbA : ¬ A b) (hL : L < 2147483648) : ∀ ls st M, wpl (LJ p l e s m args below meth c D ca ad A Q k) Q (b_L_law_434 b L xs) ls st M → LJ p l e s m args below meth c D ca ad A Q k 434 ls st M := s_aln C0 (d_L_law_434) (hgl rfl) (s_aln C0 (d_L_law_435) (hgl rfl) (s_il C0 (d_L_law_436) (hgl rfl) (s_ic C0 (d_L_law_438) (hgl rfl) (s_add C0 (d_L_law_439) (hgl rfl) (s_scr C0 hX hbl hbA (d_L_law_440) (hgl rfl) (s_aln C0 (d_L_law_441) (hgl rfl) (s_il C0 (d_L_law_442) (hgl rfl) (s_ic C0 (d_L_law_444) (hgl rfl) (s_add C0 (d_L_law_445) (hgl rfl) (s_scr C0 hX hbl hbA (d_L_law_446) (hgl rfl) (s_aln C0 (d_L_law_447) (hgl rfl) (s_callSH C0 hE (c_L_person l hl0) wg802 wg800 wg801 wg0 ⟨by decide, by decide⟩ (by decide +kernel) ⟨by decide, by decide⟩ (hfl hk rfl) (d_L_law_448) (fun x hx => (hno x hx).elim) (hgc rfl rfl rfl) (hfl hk rfl) (s_is C0 (d_L_law_451) (hgl rfl) (s_aln C0 (d_L_law_453) (hgl rfl) (s_aln C0 (d_L_law_454) (hgl rfl) (s_il C0 (d_L_law_455) (hgl rfl) (s_ic C0 (d_L_law_457) (hgl rfl) (s_add C0 (d_L_law_458) (hgl rfl) (s_scr C0 hX hbl hbA (d_L_law_459) (hgl rfl) (s_aln C0 (d_L_law_460) (hgl rfl) (s_il C0 (d_L_law_461) (hgl rfl) (s_ic C0 (d_L_law_463) (hgl rfl) (s_add C0 (d_L_law_464) (hgl rfl) (s_scr C0 hX hbl hbA (d_L_law_465) (hgl rfl) (s_callV C0 hE (c_X11_person l) wg1442 wg1439 wg1440 wg1441 wg12 ⟨by decide, by decide⟩ (by decide +kernel) (c0 := 11) rfl ⟨by decide, by decide⟩ (hfl hk rfl) (d_L_law_466) (fun x hx => (hno x hx).elim) (hgc0 rfl) (hfl hk rfl) (s_is C0 (d_L_law_469) (hgl rfl) (s_aln C0 (d_L_law_471) (hgl rfl) (s_callV C0 hE (c_X11_thrown l) wg1344 wg1341 wg1342 wg1343 wg12 ⟨by decide, by decide⟩ (by decide +kernel) (c0 := 11) rfl ⟨by decide, by decide⟩ (hfl hk rfl) (d_L_law_472) (fun x hx => (hno x hx).elim) (hgc0 rfl) (hfl hk rfl) (s_il C0 (d_L_law_475) (hgl rfl) (s_ceq C0 (d_L_law_477) (by decide) (hgl rfl) (hgl rfl) (fun _ _ _ h => h) (s_ic C0 (d_L_law_480) (hgl rfl) (s_rz C0 hr (d_L_law_481) (hfr hk)) (okn rfl)))))))))) (okn rfl)))))) (okn rfl)))))))))) (okn rfl)))))) (okn rfl))))
theorem d_L_law_482 : decode cL_law 482 = .ok (.iload 5, 2) := by decide +kernel
theorem d_L_law_484 : decode cL_law 484 = .ok (.ifCond .ne 15, 3) := by decide +kernel
theorem d_L_law_487 : decode cL_law 487 = .ok (.aload_n 3, 1) := by decide +kernel
theorem d_L_law_488 : decode cL_law 488 = .ok (.iconst 0, 1) := by decide +kernel
theorem d_L_law_489 : decode cL_law 489 = .ok (.laload, 1) := by decide +kernel
theorem d_L_law_490 : decode cL_law 490 = .ok (.iload 6, 2) := by decide +kernel
theorem d_L_law_492 : decode cL_law 492 = .ok (.i2l, 1) := by decide +kernel
theorem d_L_law_493 : decode cL_law 493 = .ok (.lcmp, 1) := by decide +kernel
theorem d_L_law_494 : decode cL_law 494 = .ok (.ifCond .eq 5, 3) := by decide +kernel
theorem d_L_law_497 : decode cL_law 497 = .ok (.iconst 0, 1) := by decide +kernel
theorem d_L_law_498 : decode cL_law 498 = .ok (.ireturn, 1) := by decide +kernel
set_option maxRecDepth 100000 in
theorem lb_482 {p : Program} {l : Launch} {e : Env} {s : State} {m : MethodId} {args : Array Value} {below : List Frame} {meth : Method} {c : Code} {D : va_G} {ca : Nat → ClassId} {ad sx sy : Nat → Nat} {A : Nat → Prop} {Q : QT} {b L k : Nat} {xs : Nat → Int32} (hl0 : l.stackTraces = false) (hk : k < 600) (C0 : CX p s m args meth c cL_law 7 yL_law.cls D ca ad A) (hE : EX sx sy A s s.heap) (hr : meth.sig.returnType = some .boolean) (hno : ∀ x ∈ c.exceptionTable.toList, False) (hX : va_X b L xs s s.heap) (hbl : b < s.heap.size) (hbA : ¬ A b) (hL : L < 2147483648) : ∀ ls st M, wpl (LJ p l e s m args below meth c D ca ad A Q k) Q (b_L_law_482 b L xs) ls st M → LJ p l e s m args below meth c D ca ad A Q k 482 ls st M := s_il C0 (d_L_law_482) (hgl rfl) (s_zne C0 (d_L_law_484) (by decide) (hgl rfl) (hgl rfl) (fun _ _ _ h => h) (s_aln C0 (d_L_law_487) (hgl rfl) (s_ic C0 (d_L_law_488) (hgl rfl) (s_la C0 (d_L_law_489) (hgl rfl) (s_il C0 (d_L_law_490) (hgl rfl) (s_i2l C0 (d_L_law_492) (hgl rfl) (s_lcmp C0 (d_L_law_493) (hgl rfl) (s_zeq C0 (d_L_law_494) (by decide) (hgl rfl) (hgl rfl) (fun _ _ _ h => h) (s_ic C0 (d_L_law_497) (hgl rfl) (s_rz C0 hr (d_L_law_498) (hfr hk)) (okn rfl))))))) (okn rfl))))
theorem d_L_law_499 : decode cL_law 499 = .ok (.goto 1332, 3) := by decide +kernel
set_option maxRecDepth 100000 in
theorem lb_499 {p : Program} {l : Launch} {e : Env} {s : State} {m : MethodId} {args : Array Value} {below : List Frame} {meth : Method} {c : Code} {D : va_G} {ca : Nat → ClassId} {ad sx sy : Nat → Nat} {A : Nat → Prop} {Q : QT} {b L k : Nat} {xs : Nat → Int32} (hl0 : l.stackTraces = false) (hk : k < 600) (C0 : CX p s m args meth c cL_law 7 yL_law.cls D ca ad A) (hE : EX sx sy A s s.heap) (hr : meth.sig.returnType = some .boolean) (hno : ∀ x ∈ c.exceptionTable.toList, False) (hX : va_X b L xs s s.heap) (hbl : b < s.heap.size) (hbA : ¬ A b) (hL : L < 2147483648) : ∀ ls st M, wpl (LJ p l e s m args below meth c D ca ad A Q k) Q (b_L_law_499 b L xs) ls st M → LJ p l e s m args below meth c D ca ad A Q k 499 ls st M := s_goto C0 (tgt := 1831) (d_L_law_499) (by decide) (hgl rfl) (fun _ _ _ h => h)
theorem wg1454 : Cond.code ⟨"WeighedHallModel", "thing", "(II)I"⟩ prog_13_method_31_code 3 (Option.some .int) ∈ GT := gt_mem 1574 (by decide +kernel) rfl
theorem wg1451 : Cond.methodLink "WeighedHallLaw" 119 ⟨"WeighedHallModel", "thing", "(II)I"⟩ ∈ GT := gt_mem 1571 (by decide +kernel) rfl
theorem wg1452 : Cond.instanceMethod ⟨"WeighedHallModel", "thing", "(II)I"⟩ ∈ GT := gt_mem 1572 (by decide +kernel) rfl
theorem wg1453 : Cond.selects "WeighedHallModel" ⟨"WeighedHallModel", "thing", "(II)I"⟩ ⟨"WeighedHallModel", "thing", "(II)I"⟩ ∈ GT := gt_mem 1573 (by decide +kernel) rfl
theorem wg835 : Cond.codeWith ⟨"WeighedHallLaw", "thing", "(LWeighedHall;II[J)I"⟩ method_7_code 5 (Option.some .int) [(0, 10, 13, 25), (0, 10, 17, 13)] ∈ GT := gt_mem 955 (by decide +kernel) rfl
theorem wg833 : Cond.methodLink "WeighedHallLaw" 117 ⟨"WeighedHallLaw", "thing", "(LWeighedHall;II[J)I"⟩ ∈ GT := gt_mem 953 (by decide +kernel) rfl
theorem wg834 : Cond.static ⟨"WeighedHallLaw", "thing", "(LWeighedHall;II[J)I"⟩ ∈ GT := gt_mem 954 (by decide +kernel) rfl
theorem d_L_law_502 : decode cL_law 502 = .ok (.aload_n 1, 1) := by decide +kernel
theorem d_L_law_503 : decode cL_law 503 = .ok (.aload_n 0, 1) := by decide +kernel
theorem d_L_law_504 : decode cL_law 504 = .ok (.iload 4, 2) := by decide +kernel
theorem d_L_law_506 : decode cL_law 506 = .ok (.iconst 1, 1) := by decide +kernel
theorem d_L_law_507 : decode cL_law 507 = .ok (.iadd, 1) := by decide +kernel
theorem d_L_law_508 : decode cL_law 508 = .ok (.iaload, 1) := by decide +kernel
theorem d_L_law_509 : decode cL_law 509 = .ok (.aload_n 0, 1) := by decide +kernel
theorem d_L_law_510 : decode cL_law 510 = .ok (.iload 4, 2) := by decide +kernel
theorem d_L_law_512 : decode cL_law 512 = .ok (.iconst 2, 1) := by decide +kernel
theorem d_L_law_513 : decode cL_law 513 = .ok (.iadd, 1) := by decide +kernel
theorem d_L_law_514 : decode cL_law 514 = .ok (.iaload, 1) := by decide +kernel
theorem d_L_law_515 : decode cL_law 515 = .ok (.aload_n 3, 1) := by decide +kernel
theorem d_L_law_516 : decode cL_law 516 = .ok (.invokestatic 117, 3) := by decide +kernel
theorem d_L_law_519 : decode cL_law 519 = .ok (.istore 5, 2) := by decide +kernel
theorem d_L_law_521 : decode cL_law 521 = .ok (.aload_n 2, 1) := by decide +kernel
theorem d_L_law_522 : decode cL_law 522 = .ok (.aload_n 0, 1) := by decide +kernel
theorem d_L_law_523 : decode cL_law 523 = .ok (.iload 4, 2) := by decide +kernel
theorem d_L_law_525 : decode cL_law 525 = .ok (.iconst 1, 1) := by decide +kernel
theorem d_L_law_526 : decode cL_law 526 = .ok (.iadd, 1) := by decide +kernel
theorem d_L_law_527 : decode cL_law 527 = .ok (.iaload, 1) := by decide +kernel
theorem d_L_law_528 : decode cL_law 528 = .ok (.aload_n 0, 1) := by decide +kernel
theorem d_L_law_529 : decode cL_law 529 = .ok (.iload 4, 2) := by decide +kernel
theorem d_L_law_531 : decode cL_law 531 = .ok (.iconst 2, 1) := by decide +kernel
theorem d_L_law_532 : decode cL_law 532 = .ok (.iadd, 1) := by decide +kernel
theorem d_L_law_533 : decode cL_law 533 = .ok (.iaload, 1) := by decide +kernel
theorem d_L_law_534 : decode cL_law 534 = .ok (.invokevirtual 119, 3) := by decide +kernel
theorem d_L_law_537 : decode cL_law 537 = .ok (.istore 6, 2) := by decide +kernel
theorem d_L_law_539 : decode cL_law 539 = .ok (.aload_n 2, 1) := by decide +kernel
theorem d_L_law_540 : decode cL_law 540 = .ok (.invokevirtual 99, 3) := by decide +kernel
theorem d_L_law_543 : decode cL_law 543 = .ok (.iload 5, 2) := by decide +kernel
theorem d_L_law_545 : decode cL_law 545 = .ok (.if_icmp .eq 5, 3) := by decide +kernel
theorem d_L_law_548 : decode cL_law 548 = .ok (.iconst 0, 1) := by decide +kernel
theorem d_L_law_549 : decode cL_law 549 = .ok (.ireturn, 1) := by decide +kernel
set_option maxRecDepth 100000 in
theorem lb_502 {p : Program} {l : Launch} {e : Env} {s : State} {m : MethodId} {args : Array Value} {below : List Frame} {meth : Method} {c : Code} {D : va_G} {ca : Nat → ClassId} {ad sx sy : Nat → Nat} {A : Nat → Prop} {Q : QT} {b L k : Nat} {xs : Nat → Int32} (hl0 : l.stackTraces = false) (hk : k < 600) (C0 : CX p s m args meth c cL_law 7 yL_law.cls D ca ad A) (hE : EX sx sy A s s.heap) (hr : meth.sig.returnType = some .boolean) (hno : ∀ x ∈ c.exceptionTable.toList, False) (hX : va_X b L xs s s.heap) (hbl : b < s.heap.size) (hbA : ¬ A b) (hL : L < 2147483648) : ∀ ls st M, wpl (LJ p l e s m args below meth c D ca ad A Q k) Q (b_L_law_502 b L xs) ls st M → LJ p l e s m args below meth c D ca ad A Q k 502 ls st M := s_aln C0 (d_L_law_502) (hgl rfl) (s_aln C0 (d_L_law_503) (hgl rfl) (s_il C0 (d_L_law_504) (hgl rfl) (s_ic C0 (d_L_law_506) (hgl rfl) (s_add C0 (d_L_law_507) (hgl rfl) (s_scr C0 hX hbl hbA (d_L_law_508) (hgl rfl) (s_aln C0 (d_L_law_509) (hgl rfl) (s_il C0 (d_L_law_510) (hgl rfl) (s_ic C0 (d_L_law_512) (hgl rfl) (s_add C0 (d_L_law_513) (hgl rfl) (s_scr C0 hX hbl hbA (d_L_law_514) (hgl rfl) (s_aln C0 (d_L_law_515) (hgl rfl) (s_callSH C0 hE (c_L_thing l hl0) wg835 wg833 wg834 wg0 ⟨by decide, by decide⟩ (by decide +kernel) ⟨by decide, by decide⟩ (hfl hk rfl) (d_L_law_516) (fun x hx => (hno x hx).elim) (hgc rfl rfl rfl) (hfl hk rfl) (s_is C0 (d_L_law_519) (hgl rfl) (s_aln C0 (d_L_law_521) (hgl rfl) (s_aln C0 (d_L_law_522) (hgl rfl) (s_il C0 (d_L_law_523) (hgl rfl) (s_ic C0 (d_L_law_525) (hgl rfl) (s_add C0 (d_L_law_526) (hgl rfl) (s_scr C0 hX hbl hbA (d_L_law_527) (hgl rfl) (s_aln C0 (d_L_law_528) (hgl rfl) (s_il C0 (d_L_law_529) (hgl rfl) (s_ic C0 (d_L_law_531) (hgl rfl) (s_add C0 (d_L_law_532) (hgl rfl) (s_scr C0 hX hbl hbA (d_L_law_533) (hgl rfl) (s_callV C0 hE (c_X11_thing l) wg1454 wg1451 wg1452 wg1453 wg12 ⟨by decide, by decide⟩ (by decide +kernel) (c0 := 11) rfl ⟨by decide, by decide⟩ (hfl hk rfl) (d_L_law_534) (fun x hx => (hno x hx).elim) (hgc0 rfl) (hfl hk rfl) (s_is C0 (d_L_law_537) (hgl rfl) (s_aln C0 (d_L_law_539) (hgl rfl) (s_callV C0 hE (c_X11_thrown l) wg1344 wg1341 wg1342 wg1343 wg12 ⟨by decide, by decide⟩ (by decide +kernel) (c0 := 11) rfl ⟨by decide, by decide⟩ (hfl hk rfl) (d_L_law_540) (fun x hx => (hno x hx).elim) (hgc0 rfl) (hfl hk rfl) (s_il C0 (d_L_law_543) (hgl rfl) (s_ceq C0 (d_L_law_545) (by decide) (hgl rfl) (hgl rfl) (fun _ _ _ h => h) (s_ic C0 (d_L_law_548) (hgl rfl) (s_rz C0 hr (d_L_law_549) (hfr hk)) (okn rfl)))))))))) (okn rfl)))))) (okn rfl)))))))))) (okn rfl)))))) (okn rfl))))
theorem d_L_law_550 : decode cL_law 550 = .ok (.iload 5, 2) := by decide +kernel
theorem d_L_law_552 : decode cL_law 552 = .ok (.ifCond .ne 15, 3) := by decide +kernel
theorem d_L_law_555 : decode cL_law 555 = .ok (.aload_n 3, 1) := by decide +kernel
theorem d_L_law_556 : decode cL_law 556 = .ok (.iconst 0, 1) := by decide +kernel
theorem d_L_law_557 : decode cL_law 557 = .ok (.laload, 1) := by decide +kernel
theorem d_L_law_558 : decode cL_law 558 = .ok (.iload 6, 2) := by decide +kernel
theorem d_L_law_560 : decode cL_law 560 = .ok (.i2l, 1) := by decide +kernel
theorem d_L_law_561 : decode cL_law 561 = .ok (.lcmp, 1) := by decide +kernel
theorem d_L_law_562 : decode cL_law 562 = .ok (.ifCond .eq 5, 3) := by decide +kernel
theorem d_L_law_565 : decode cL_law 565 = .ok (.iconst 0, 1) := by decide +kernel
theorem d_L_law_566 : decode cL_law 566 = .ok (.ireturn, 1) := by decide +kernel
set_option maxRecDepth 100000 in
theorem lb_550 {p : Program} {l : Launch} {e : Env} {s : State} {m : MethodId} {args : Array Value} {below : List Frame} {meth : Method} {c : Code} {D : va_G} {ca : Nat → ClassId} {ad sx sy : Nat → Nat} {A : Nat → Prop} {Q : QT} {b L k : Nat} {xs : Nat → Int32} (hl0 : l.stackTraces = false) (hk : k < 600) (C0 : CX p s m args meth c cL_law 7 yL_law.cls D ca ad A) (hE : EX sx sy A s s.heap) (hr : meth.sig.returnType = some .boolean) (hno : ∀ x ∈ c.exceptionTable.toList, False) (hX : va_X b L xs s s.heap) (hbl : b < s.heap.size) (hbA : ¬ A b) (hL : L < 2147483648) : ∀ ls st M, wpl (LJ p l e s m args below meth c D ca ad A Q k) Q (b_L_law_550 b L xs) ls st M → LJ p l e s m args below meth c D ca ad A Q k 550 ls st M := s_il C0 (d_L_law_550) (hgl rfl) (s_zne C0 (d_L_law_552) (by decide) (hgl rfl) (hgl rfl) (fun _ _ _ h => h) (s_aln C0 (d_L_law_555) (hgl rfl) (s_ic C0 (d_L_law_556) (hgl rfl) (s_la C0 (d_L_law_557) (hgl rfl) (s_il C0 (d_L_law_558) (hgl rfl) (s_i2l C0 (d_L_law_560) (hgl rfl) (s_lcmp C0 (d_L_law_561) (hgl rfl) (s_zeq C0 (d_L_law_562) (by decide) (hgl rfl) (hgl rfl) (fun _ _ _ h => h) (s_ic C0 (d_L_law_565) (hgl rfl) (s_rz C0 hr (d_L_law_566) (hfr hk)) (okn rfl))))))) (okn rfl))))
theorem d_L_law_567 : decode cL_law 567 = .ok (.goto 1264, 3) := by decide +kernel
set_option maxRecDepth 100000 in
theorem lb_567 {p : Program} {l : Launch} {e : Env} {s : State} {m : MethodId} {args : Array Value} {below : List Frame} {meth : Method} {c : Code} {D : va_G} {ca : Nat → ClassId} {ad sx sy : Nat → Nat} {A : Nat → Prop} {Q : QT} {b L k : Nat} {xs : Nat → Int32} (hl0 : l.stackTraces = false) (hk : k < 600) (C0 : CX p s m args meth c cL_law 7 yL_law.cls D ca ad A) (hE : EX sx sy A s s.heap) (hr : meth.sig.returnType = some .boolean) (hno : ∀ x ∈ c.exceptionTable.toList, False) (hX : va_X b L xs s s.heap) (hbl : b < s.heap.size) (hbA : ¬ A b) (hL : L < 2147483648) : ∀ ls st M, wpl (LJ p l e s m args below meth c D ca ad A Q k) Q (b_L_law_567 b L xs) ls st M → LJ p l e s m args below meth c D ca ad A Q k 567 ls st M := s_goto C0 (tgt := 1831) (d_L_law_567) (by decide) (hgl rfl) (fun _ _ _ h => h)
theorem wg1469 : Cond.code ⟨"WeighedHallModel", "holds", "(II)I"⟩ prog_13_method_45_code 3 (Option.some .int) ∈ GT := gt_mem 1589 (by decide +kernel) rfl
theorem wg1466 : Cond.methodLink "WeighedHallLaw" 122 ⟨"WeighedHallModel", "holds", "(II)I"⟩ ∈ GT := gt_mem 1586 (by decide +kernel) rfl
theorem wg1467 : Cond.instanceMethod ⟨"WeighedHallModel", "holds", "(II)I"⟩ ∈ GT := gt_mem 1587 (by decide +kernel) rfl
theorem wg1468 : Cond.selects "WeighedHallModel" ⟨"WeighedHallModel", "holds", "(II)I"⟩ ⟨"WeighedHallModel", "holds", "(II)I"⟩ ∈ GT := gt_mem 1588 (by decide +kernel) rfl
theorem wg924 : Cond.codeWith ⟨"WeighedHallLaw", "holds", "(LWeighedHall;II[J)I"⟩ method_8_code 5 (Option.some .int) [(0, 10, 13, 25), (0, 10, 17, 13)] ∈ GT := gt_mem 1044 (by decide +kernel) rfl
theorem wg922 : Cond.methodLink "WeighedHallLaw" 120 ⟨"WeighedHallLaw", "holds", "(LWeighedHall;II[J)I"⟩ ∈ GT := gt_mem 1042 (by decide +kernel) rfl
theorem wg923 : Cond.static ⟨"WeighedHallLaw", "holds", "(LWeighedHall;II[J)I"⟩ ∈ GT := gt_mem 1043 (by decide +kernel) rfl
theorem d_L_law_570 : decode cL_law 570 = .ok (.aload_n 1, 1) := by decide +kernel
theorem d_L_law_571 : decode cL_law 571 = .ok (.aload_n 0, 1) := by decide +kernel
theorem d_L_law_572 : decode cL_law 572 = .ok (.iload 4, 2) := by decide +kernel
theorem d_L_law_574 : decode cL_law 574 = .ok (.iconst 1, 1) := by decide +kernel
theorem d_L_law_575 : decode cL_law 575 = .ok (.iadd, 1) := by decide +kernel
theorem d_L_law_576 : decode cL_law 576 = .ok (.iaload, 1) := by decide +kernel
theorem d_L_law_577 : decode cL_law 577 = .ok (.aload_n 0, 1) := by decide +kernel
theorem d_L_law_578 : decode cL_law 578 = .ok (.iload 4, 2) := by decide +kernel
theorem d_L_law_580 : decode cL_law 580 = .ok (.iconst 2, 1) := by decide +kernel
theorem d_L_law_581 : decode cL_law 581 = .ok (.iadd, 1) := by decide +kernel
theorem d_L_law_582 : decode cL_law 582 = .ok (.iaload, 1) := by decide +kernel
theorem d_L_law_583 : decode cL_law 583 = .ok (.aload_n 3, 1) := by decide +kernel
theorem d_L_law_584 : decode cL_law 584 = .ok (.invokestatic 120, 3) := by decide +kernel
theorem d_L_law_587 : decode cL_law 587 = .ok (.istore 5, 2) := by decide +kernel
theorem d_L_law_589 : decode cL_law 589 = .ok (.aload_n 2, 1) := by decide +kernel
theorem d_L_law_590 : decode cL_law 590 = .ok (.aload_n 0, 1) := by decide +kernel
theorem d_L_law_591 : decode cL_law 591 = .ok (.iload 4, 2) := by decide +kernel
theorem d_L_law_593 : decode cL_law 593 = .ok (.iconst 1, 1) := by decide +kernel
theorem d_L_law_594 : decode cL_law 594 = .ok (.iadd, 1) := by decide +kernel
theorem d_L_law_595 : decode cL_law 595 = .ok (.iaload, 1) := by decide +kernel
theorem d_L_law_596 : decode cL_law 596 = .ok (.aload_n 0, 1) := by decide +kernel
theorem d_L_law_597 : decode cL_law 597 = .ok (.iload 4, 2) := by decide +kernel
theorem d_L_law_599 : decode cL_law 599 = .ok (.iconst 2, 1) := by decide +kernel
theorem d_L_law_600 : decode cL_law 600 = .ok (.iadd, 1) := by decide +kernel
theorem d_L_law_601 : decode cL_law 601 = .ok (.iaload, 1) := by decide +kernel
theorem d_L_law_602 : decode cL_law 602 = .ok (.invokevirtual 122, 3) := by decide +kernel
theorem d_L_law_605 : decode cL_law 605 = .ok (.istore 6, 2) := by decide +kernel
theorem d_L_law_607 : decode cL_law 607 = .ok (.aload_n 2, 1) := by decide +kernel
theorem d_L_law_608 : decode cL_law 608 = .ok (.invokevirtual 99, 3) := by decide +kernel
theorem d_L_law_611 : decode cL_law 611 = .ok (.iload 5, 2) := by decide +kernel
theorem d_L_law_613 : decode cL_law 613 = .ok (.if_icmp .eq 5, 3) := by decide +kernel
theorem d_L_law_616 : decode cL_law 616 = .ok (.iconst 0, 1) := by decide +kernel
theorem d_L_law_617 : decode cL_law 617 = .ok (.ireturn, 1) := by decide +kernel
set_option maxRecDepth 100000 in
theorem lb_570 {p : Program} {l : Launch} {e : Env} {s : State} {m : MethodId} {args : Array Value} {below : List Frame} {meth : Method} {c : Code} {D : va_G} {ca : Nat → ClassId} {ad sx sy : Nat → Nat} {A : Nat → Prop} {Q : QT} {b L k : Nat} {xs : Nat → Int32} (hl0 : l.stackTraces = false) (hk : k < 600) (C0 : CX p s m args meth c cL_law 7 yL_law.cls D ca ad A) (hE : EX sx sy A s s.heap) (hr : meth.sig.returnType = some .boolean) (hno : ∀ x ∈ c.exceptionTable.toList, False) (hX : va_X b L xs s s.heap) (hbl : b < s.heap.size) (hbA : ¬ A b) (hL : L < 2147483648) : ∀ ls st M, wpl (LJ p l e s m args below meth c D ca ad A Q k) Q (b_L_law_570 b L xs) ls st M → LJ p l e s m args below meth c D ca ad A Q k 570 ls st M := s_aln C0 (d_L_law_570) (hgl rfl) (s_aln C0 (d_L_law_571) (hgl rfl) (s_il C0 (d_L_law_572) (hgl rfl) (s_ic C0 (d_L_law_574) (hgl rfl) (s_add C0 (d_L_law_575) (hgl rfl) (s_scr C0 hX hbl hbA (d_L_law_576) (hgl rfl) (s_aln C0 (d_L_law_577) (hgl rfl) (s_il C0 (d_L_law_578) (hgl rfl) (s_ic C0 (d_L_law_580) (hgl rfl) (s_add C0 (d_L_law_581) (hgl rfl) (s_scr C0 hX hbl hbA (d_L_law_582) (hgl rfl) (s_aln C0 (d_L_law_583) (hgl rfl) (s_callSH C0 hE (c_L_holds l hl0) wg924 wg922 wg923 wg0 ⟨by decide, by decide⟩ (by decide +kernel) ⟨by decide, by decide⟩ (hfl hk rfl) (d_L_law_584) (fun x hx => (hno x hx).elim) (hgc rfl rfl rfl) (hfl hk rfl) (s_is C0 (d_L_law_587) (hgl rfl) (s_aln C0 (d_L_law_589) (hgl rfl) (s_aln C0 (d_L_law_590) (hgl rfl) (s_il C0 (d_L_law_591) (hgl rfl) (s_ic C0 (d_L_law_593) (hgl rfl) (s_add C0 (d_L_law_594) (hgl rfl) (s_scr C0 hX hbl hbA (d_L_law_595) (hgl rfl) (s_aln C0 (d_L_law_596) (hgl rfl) (s_il C0 (d_L_law_597) (hgl rfl) (s_ic C0 (d_L_law_599) (hgl rfl) (s_add C0 (d_L_law_600) (hgl rfl) (s_scr C0 hX hbl hbA (d_L_law_601) (hgl rfl) (s_callV C0 hE (c_X11_holds l) wg1469 wg1466 wg1467 wg1468 wg12 ⟨by decide, by decide⟩ (by decide +kernel) (c0 := 11) rfl ⟨by decide, by decide⟩ (hfl hk rfl) (d_L_law_602) (fun x hx => (hno x hx).elim) (hgc0 rfl) (hfl hk rfl) (s_is C0 (d_L_law_605) (hgl rfl) (s_aln C0 (d_L_law_607) (hgl rfl) (s_callV C0 hE (c_X11_thrown l) wg1344 wg1341 wg1342 wg1343 wg12 ⟨by decide, by decide⟩ (by decide +kernel) (c0 := 11) rfl ⟨by decide, by decide⟩ (hfl hk rfl) (d_L_law_608) (fun x hx => (hno x hx).elim) (hgc0 rfl) (hfl hk rfl) (s_il C0 (d_L_law_611) (hgl rfl) (s_ceq C0 (d_L_law_613) (by decide) (hgl rfl) (hgl rfl) (fun _ _ _ h => h) (s_ic C0 (d_L_law_616) (hgl rfl) (s_rz C0 hr (d_L_law_617) (hfr hk)) (okn rfl)))))))))) (okn rfl)))))) (okn rfl)))))))))) (okn rfl)))))) (okn rfl))))
