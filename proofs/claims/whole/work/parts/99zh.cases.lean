/-! the law's cases, printed by wip/gen/law.py -/
theorem dL_law_208 : decode cL_law 208 = .ok (.aload_n 1, 1) := by decide +kernel
theorem dL_law_209 : decode cL_law 209 = .ok (.aload_n 0, 1) := by decide +kernel
theorem dL_law_210 : decode cL_law 210 = .ok (.iload 4, 2) := by decide +kernel
theorem dL_law_212 : decode cL_law 212 = .ok (.iconst 1, 1) := by decide +kernel
theorem dL_law_213 : decode cL_law 213 = .ok (.iadd, 1) := by decide +kernel
theorem dL_law_214 : decode cL_law 214 = .ok (.iaload, 1) := by decide +kernel
theorem dL_law_215 : decode cL_law 215 = .ok (.aload_n 0, 1) := by decide +kernel
theorem dL_law_216 : decode cL_law 216 = .ok (.iload 4, 2) := by decide +kernel
theorem dL_law_218 : decode cL_law 218 = .ok (.iconst 2, 1) := by decide +kernel
theorem dL_law_219 : decode cL_law 219 = .ok (.iadd, 1) := by decide +kernel
theorem dL_law_220 : decode cL_law 220 = .ok (.iaload, 1) := by decide +kernel
theorem dL_law_221 : decode cL_law 221 = .ok (.aload_n 0, 1) := by decide +kernel
theorem dL_law_222 : decode cL_law 222 = .ok (.iload 4, 2) := by decide +kernel
theorem dL_law_224 : decode cL_law 224 = .ok (.iconst 3, 1) := by decide +kernel
theorem dL_law_225 : decode cL_law 225 = .ok (.iadd, 1) := by decide +kernel
theorem dL_law_226 : decode cL_law 226 = .ok (.iaload, 1) := by decide +kernel
theorem dL_law_227 : decode cL_law 227 = .ok (.aload_n 0, 1) := by decide +kernel
theorem dL_law_228 : decode cL_law 228 = .ok (.iload 4, 2) := by decide +kernel
theorem dL_law_230 : decode cL_law 230 = .ok (.iconst 4, 1) := by decide +kernel
theorem dL_law_231 : decode cL_law 231 = .ok (.iadd, 1) := by decide +kernel
theorem dL_law_232 : decode cL_law 232 = .ok (.iaload, 1) := by decide +kernel
theorem dL_law_233 : decode cL_law 233 = .ok (.aload_n 0, 1) := by decide +kernel
theorem dL_law_234 : decode cL_law 234 = .ok (.iload 4, 2) := by decide +kernel
theorem dL_law_236 : decode cL_law 236 = .ok (.iconst 5, 1) := by decide +kernel
theorem dL_law_237 : decode cL_law 237 = .ok (.iadd, 1) := by decide +kernel
theorem dL_law_238 : decode cL_law 238 = .ok (.iaload, 1) := by decide +kernel
theorem dL_law_239 : decode cL_law 239 = .ok (.invokevirtual 22, 3) := by decide +kernel
theorem wd_558 : (Jvm.Cond.selects "ParlourLeaves" ({ cls := "ParlourLeaves", name := "feed", desc := "(IIIII)I" } : Jvm.MethodName) ({ cls := "ParlourLeaves", name := "feed", desc := "(IIIII)I" } : Jvm.MethodName)) ∈ zTB := List.mem_filter.mpr ⟨List.mem_append_right _ (List.mem_append_right _ (List.mem_append_right _ (List.mem_append_left _ (List.mem_of_getElem? (i := 78) rfl)))), rfl⟩
theorem wd_556 : (Jvm.Cond.methodLink "ParlourLeavesLaw" (22 : Nat) ({ cls := "ParlourLeaves", name := "feed", desc := "(IIIII)I" } : Jvm.MethodName)) ∈ zTB := List.mem_filter.mpr ⟨List.mem_append_right _ (List.mem_append_right _ (List.mem_append_right _ (List.mem_append_left _ (List.mem_of_getElem? (i := 76) rfl)))), rfl⟩
theorem wd_557 : (Jvm.Cond.instanceMethod ({ cls := "ParlourLeaves", name := "feed", desc := "(IIIII)I" } : Jvm.MethodName)) ∈ zTB := List.mem_filter.mpr ⟨List.mem_append_right _ (List.mem_append_right _ (List.mem_append_right _ (List.mem_append_left _ (List.mem_of_getElem? (i := 77) rfl)))), rfl⟩
theorem wd_559 : (Jvm.Cond.code ({ cls := "ParlourLeaves", name := "feed", desc := "(IIIII)I" } : Jvm.MethodName) prog_1_method_2_code (6 : Nat) (Option.some Jvm.ClassFile.FieldType.int)) ∈ zTB := List.mem_filter.mpr ⟨List.mem_append_right _ (List.mem_append_right _ (List.mem_append_right _ (List.mem_append_left _ (List.mem_of_getElem? (i := 79) rfl)))), rfl⟩
theorem cv_L_22 : zCV RL RX11 22 yX11_feed cX11_feed 6 (some .int) 5 := ⟨rfl, ⟨by decide, by decide, by decide +kernel⟩, wd_556, wd_557, wd_558, wd_1, wd_559⟩
theorem dL_law_242 : decode cL_law 242 = .ok (.aload_n 2, 1) := by decide +kernel
theorem dL_law_243 : decode cL_law 243 = .ok (.aload_n 0, 1) := by decide +kernel
theorem dL_law_244 : decode cL_law 244 = .ok (.iload 4, 2) := by decide +kernel
theorem dL_law_246 : decode cL_law 246 = .ok (.iconst 1, 1) := by decide +kernel
theorem dL_law_247 : decode cL_law 247 = .ok (.iadd, 1) := by decide +kernel
theorem dL_law_248 : decode cL_law 248 = .ok (.iaload, 1) := by decide +kernel
theorem dL_law_249 : decode cL_law 249 = .ok (.aload_n 0, 1) := by decide +kernel
theorem dL_law_250 : decode cL_law 250 = .ok (.iload 4, 2) := by decide +kernel
theorem dL_law_252 : decode cL_law 252 = .ok (.iconst 2, 1) := by decide +kernel
theorem dL_law_253 : decode cL_law 253 = .ok (.iadd, 1) := by decide +kernel
theorem dL_law_254 : decode cL_law 254 = .ok (.iaload, 1) := by decide +kernel
theorem dL_law_255 : decode cL_law 255 = .ok (.aload_n 0, 1) := by decide +kernel
theorem dL_law_256 : decode cL_law 256 = .ok (.iload 4, 2) := by decide +kernel
theorem dL_law_258 : decode cL_law 258 = .ok (.iconst 3, 1) := by decide +kernel
theorem dL_law_259 : decode cL_law 259 = .ok (.iadd, 1) := by decide +kernel
theorem dL_law_260 : decode cL_law 260 = .ok (.iaload, 1) := by decide +kernel
theorem dL_law_261 : decode cL_law 261 = .ok (.aload_n 0, 1) := by decide +kernel
theorem dL_law_262 : decode cL_law 262 = .ok (.iload 4, 2) := by decide +kernel
theorem dL_law_264 : decode cL_law 264 = .ok (.iconst 4, 1) := by decide +kernel
theorem dL_law_265 : decode cL_law 265 = .ok (.iadd, 1) := by decide +kernel
theorem dL_law_266 : decode cL_law 266 = .ok (.iaload, 1) := by decide +kernel
theorem dL_law_267 : decode cL_law 267 = .ok (.aload_n 0, 1) := by decide +kernel
theorem dL_law_268 : decode cL_law 268 = .ok (.iload 4, 2) := by decide +kernel
theorem dL_law_270 : decode cL_law 270 = .ok (.iconst 5, 1) := by decide +kernel
theorem dL_law_271 : decode cL_law 271 = .ok (.iadd, 1) := by decide +kernel
theorem dL_law_272 : decode cL_law 272 = .ok (.iaload, 1) := by decide +kernel
theorem dL_law_273 : decode cL_law 273 = .ok (.invokevirtual 26, 3) := by decide +kernel
theorem wd_1465 : (Jvm.Cond.selects "ParlourLeavesModel" ({ cls := "ParlourLeavesModel", name := "feed", desc := "(IIIII)I" } : Jvm.MethodName) ({ cls := "ParlourLeavesModel", name := "feed", desc := "(IIIII)I" } : Jvm.MethodName)) ∈ zTB := List.mem_filter.mpr ⟨List.mem_append_right _ (List.mem_append_right _ (List.mem_append_right _ (List.mem_append_right _ (List.mem_append_right _ (List.mem_append_right _ (List.mem_append_right _ (List.mem_append_left _ (List.mem_of_getElem? (i := 25) rfl)))))))), rfl⟩
theorem wd_1463 : (Jvm.Cond.methodLink "ParlourLeavesLaw" (26 : Nat) ({ cls := "ParlourLeavesModel", name := "feed", desc := "(IIIII)I" } : Jvm.MethodName)) ∈ zTB := List.mem_filter.mpr ⟨List.mem_append_right _ (List.mem_append_right _ (List.mem_append_right _ (List.mem_append_right _ (List.mem_append_right _ (List.mem_append_right _ (List.mem_append_right _ (List.mem_append_left _ (List.mem_of_getElem? (i := 23) rfl)))))))), rfl⟩
theorem wd_1464 : (Jvm.Cond.instanceMethod ({ cls := "ParlourLeavesModel", name := "feed", desc := "(IIIII)I" } : Jvm.MethodName)) ∈ zTB := List.mem_filter.mpr ⟨List.mem_append_right _ (List.mem_append_right _ (List.mem_append_right _ (List.mem_append_right _ (List.mem_append_right _ (List.mem_append_right _ (List.mem_append_right _ (List.mem_append_left _ (List.mem_of_getElem? (i := 24) rfl)))))))), rfl⟩
theorem wd_1466 : (Jvm.Cond.code ({ cls := "ParlourLeavesModel", name := "feed", desc := "(IIIII)I" } : Jvm.MethodName) prog_14_method_4_code (6 : Nat) (Option.some Jvm.ClassFile.FieldType.int)) ∈ zTB := List.mem_filter.mpr ⟨List.mem_append_right _ (List.mem_append_right _ (List.mem_append_right _ (List.mem_append_right _ (List.mem_append_right _ (List.mem_append_right _ (List.mem_append_right _ (List.mem_append_left _ (List.mem_of_getElem? (i := 26) rfl)))))))), rfl⟩
theorem cv_L_26 : zCV RL RX12 26 yX12_feed cX12_feed 6 (some .int) 5 := ⟨rfl, ⟨by decide, by decide, by decide +kernel⟩, wd_1463, wd_1464, wd_1465, wd_19, wd_1466⟩
theorem dL_law_276 : decode cL_law 276 = .ok (.if_icmp .eq 992, 3) := by decide +kernel
set_option maxHeartbeats 1000000 in
set_option maxRecDepth 100000 in
theorem law_0 {p : Program} {l : Launch} {e : Env} {s : State} {m : MethodId} {below : List Frame} {meth : Method} {c : Code} {D : va_G} {cy : Nat → ClassId} {kK kV q qm : Nat → Nat} {o b L i cells slots : Nat} {xs : Nat → Int32} {Q : State → Prop} (cx : zX RL cL_law 7 p s m #[Value.ref b] c D cy) (hE : zEn kK kV (zAL s) s) (hX : va_X b L xs s s.heap) (hbl : b < s.heap.size) (hL : L ≤ 3072) (hi : i + 6 ≤ L) (hcl : cells + 2 ≤ 601024) (hsl : slots + 68 ≤ 7293034) (hl0 : l.stackTraces = false)
    (KC : ∀ (H : Heap) (locs : List Loc) (ls : Array Slot) (c1 s1 : Nat), zIv D cy s q qm o H locs → lv_has ls 7 [(4, .int (nI i)), (0, .ref b), (1, .ref (q 0)), (2, .ref (qm 0)), (3, .ref o)] → c1 ≤ cells + 2 → s1 ≤ slots + 68 → W p l e room_1 s m #[Value.ref b] below meth c H locs c1 s1 Q (F0 m 1268 ls []))
    {H : Heap} {locs : List Loc} {ls : Array Slot} (hv : zIv D cy s q qm o H locs) (hl : lv_has ls 7 [(4, .int (nI i)), (0, .ref b), (1, .ref (q 0)), (2, .ref (qm 0)), (3, .ref o)]) : W p l e room_1 s m #[Value.ref b] below meth c H locs cells slots Q (F0 m 208 ls []) := by
  have hx := cx.1
  have hb := cx.2.1
  have hbA : ¬ zAL s b := Nat.not_le.mpr hbl
  have hRc : zRc cells slots room_1 := ⟨by show cells + 0 ≤ 601024; omega, by show slots + 0 ≤ 7293034; omega⟩
  have in1 : vp_in (nI i + (1 : Int32)) L := zl_in (j := 1) hi hL (by decide)
  have in2 : vp_in (nI i + (2 : Int32)) L := zl_in (j := 2) hi hL (by decide)
  have in3 : vp_in (nI i + (3 : Int32)) L := zl_in (j := 3) hi hL (by decide)
  have in4 : vp_in (nI i + (4 : Int32)) L := zl_in (j := 4) hi hL (by decide)
  have in5 : vp_in (nI i + (5 : Int32)) L := zl_in (j := 5) hi hL (by decide)
  obtain ⟨S, T, tx, u, f, r, hu, hse, hw, hS⟩ := hv
  obtain ⟨z, S', T', h1, h2, r2⟩ := ov_feed r (xs (nI i + (1 : Int32)).toNatClampNeg) (xs (nI i + (2 : Int32)).toNatClampNeg) (xs (nI i + (3 : Int32)).toNatClampNeg) (xs (nI i + (4 : Int32)).toNatClampNeg) (xs (nI i + (5 : Int32)).toNatClampNeg)
  refine lv_aload_n (pc := 208) hx hb dL_law_208 rfl (lv_at hl 2 rfl) ?_
  refine lv_aload_n (pc := 209) hx hb dL_law_209 rfl (lv_at hl 1 rfl) ?_
  refine lv_iload (pc := 210) hx hb dL_law_210 (lv_at hl 0 rfl) ?_
  refine lv_iconst (pc := 212) hx hb dL_law_212 zc_1 ?_
  refine lv_iadd (pc := 213) hx hb dL_law_213 ?_
  refine va_sld (pc := 214) hx hb hX hbl hbA hS in1 dL_law_214 ?_
  refine lv_aload_n (pc := 215) hx hb dL_law_215 rfl (lv_at hl 1 rfl) ?_
  refine lv_iload (pc := 216) hx hb dL_law_216 (lv_at hl 0 rfl) ?_
  refine lv_iconst (pc := 218) hx hb dL_law_218 zc_2 ?_
  refine lv_iadd (pc := 219) hx hb dL_law_219 ?_
  refine va_sld (pc := 220) hx hb hX hbl hbA hS in2 dL_law_220 ?_
  refine lv_aload_n (pc := 221) hx hb dL_law_221 rfl (lv_at hl 1 rfl) ?_
  refine lv_iload (pc := 222) hx hb dL_law_222 (lv_at hl 0 rfl) ?_
  refine lv_iconst (pc := 224) hx hb dL_law_224 zc_3 ?_
  refine lv_iadd (pc := 225) hx hb dL_law_225 ?_
  refine va_sld (pc := 226) hx hb hX hbl hbA hS in3 dL_law_226 ?_
  refine lv_aload_n (pc := 227) hx hb dL_law_227 rfl (lv_at hl 1 rfl) ?_
  refine lv_iload (pc := 228) hx hb dL_law_228 (lv_at hl 0 rfl) ?_
  refine lv_iconst (pc := 230) hx hb dL_law_230 zc_4 ?_
  refine lv_iadd (pc := 231) hx hb dL_law_231 ?_
  refine va_sld (pc := 232) hx hb hX hbl hbA hS in4 dL_law_232 ?_
  refine lv_aload_n (pc := 233) hx hb dL_law_233 rfl (lv_at hl 1 rfl) ?_
  refine lv_iload (pc := 234) hx hb dL_law_234 (lv_at hl 0 rfl) ?_
  refine lv_iconst (pc := 236) hx hb dL_law_236 zc_5 ?_
  refine lv_iadd (pc := 237) hx hb dL_law_237 ?_
  refine va_sld (pc := 238) hx hb hX hbl hbA hS in5 dL_law_238 ?_
  refine zl_C (pc := 239) (As := [.int (xs (nI i + (1 : Int32)).toNatClampNeg), .int (xs (nI i + (2 : Int32)).toNatClampNeg), .int (xs (nI i + (3 : Int32)).toNatClampNeg), .int (xs (nI i + (4 : Int32)).toNatClampNeg), .int (xs (nI i + (5 : Int32)).toNatClampNeg)]) (rest := []) cx cv_L_22 hse (mX11_feed hse.qC h1) ⟨⟨rfl, rfl⟩, Nat.le_of_ble_eq_true rfl, Nat.le_of_ble_eq_true rfl⟩ hRc hS hw hl.1 rfl rfl (Nat.le_of_ble_eq_true rfl) dL_law_239 (fun H locs hS hw => ?_)
  refine lv_aload_n (pc := 242) hx hb dL_law_242 rfl (lv_at hl 3 rfl) ?_
  refine lv_aload_n (pc := 243) hx hb dL_law_243 rfl (lv_at hl 1 rfl) ?_
  refine lv_iload (pc := 244) hx hb dL_law_244 (lv_at hl 0 rfl) ?_
  refine lv_iconst (pc := 246) hx hb dL_law_246 zc_1 ?_
  refine lv_iadd (pc := 247) hx hb dL_law_247 ?_
  refine va_sld (pc := 248) hx hb hX hbl hbA hS in1 dL_law_248 ?_
  refine lv_aload_n (pc := 249) hx hb dL_law_249 rfl (lv_at hl 1 rfl) ?_
  refine lv_iload (pc := 250) hx hb dL_law_250 (lv_at hl 0 rfl) ?_
  refine lv_iconst (pc := 252) hx hb dL_law_252 zc_2 ?_
  refine lv_iadd (pc := 253) hx hb dL_law_253 ?_
  refine va_sld (pc := 254) hx hb hX hbl hbA hS in2 dL_law_254 ?_
  refine lv_aload_n (pc := 255) hx hb dL_law_255 rfl (lv_at hl 1 rfl) ?_
  refine lv_iload (pc := 256) hx hb dL_law_256 (lv_at hl 0 rfl) ?_
  refine lv_iconst (pc := 258) hx hb dL_law_258 zc_3 ?_
  refine lv_iadd (pc := 259) hx hb dL_law_259 ?_
  refine va_sld (pc := 260) hx hb hX hbl hbA hS in3 dL_law_260 ?_
  refine lv_aload_n (pc := 261) hx hb dL_law_261 rfl (lv_at hl 1 rfl) ?_
  refine lv_iload (pc := 262) hx hb dL_law_262 (lv_at hl 0 rfl) ?_
  refine lv_iconst (pc := 264) hx hb dL_law_264 zc_4 ?_
  refine lv_iadd (pc := 265) hx hb dL_law_265 ?_
  refine va_sld (pc := 266) hx hb hX hbl hbA hS in4 dL_law_266 ?_
  refine lv_aload_n (pc := 267) hx hb dL_law_267 rfl (lv_at hl 1 rfl) ?_
  refine lv_iload (pc := 268) hx hb dL_law_268 (lv_at hl 0 rfl) ?_
  refine lv_iconst (pc := 270) hx hb dL_law_270 zc_5 ?_
  refine lv_iadd (pc := 271) hx hb dL_law_271 ?_
  refine va_sld (pc := 272) hx hb hX hbl hbA hS in5 dL_law_272 ?_
  refine zl_M (pc := 273) (As := [.int (xs (nI i + (1 : Int32)).toNatClampNeg), .int (xs (nI i + (2 : Int32)).toNatClampNeg), .int (xs (nI i + (3 : Int32)).toNatClampNeg), .int (xs (nI i + (4 : Int32)).toNatClampNeg), .int (xs (nI i + (5 : Int32)).toNatClampNeg)]) (rest := [.int z]) cx cv_L_26 hse (mX12_feed hse.qM h2) ⟨⟨rfl, rfl⟩, Nat.le_of_ble_eq_true rfl, Nat.le_of_ble_eq_true rfl⟩ hRc hS hw hl.1 rfl rfl (Nat.le_of_ble_eq_true rfl) dL_law_273 (fun H locs hS hw => ?_)
  refine lv_icmp_eq (pc := 276) (tgt := 1268) hx hb dL_law_276 (by decide) (fun _ => ?_) (fun c0 => absurd rfl c0)
  exact KC _ _ ls _ _ ⟨S', T', tx, u, f, r2, hu, hse, hw, hS⟩ hl (by omega) (by omega)
theorem dL_law_281 : decode cL_law 281 = .ok (.aload_n 1, 1) := by decide +kernel
theorem dL_law_282 : decode cL_law 282 = .ok (.aload_n 0, 1) := by decide +kernel
theorem dL_law_283 : decode cL_law 283 = .ok (.iload 4, 2) := by decide +kernel
theorem dL_law_285 : decode cL_law 285 = .ok (.iconst 1, 1) := by decide +kernel
theorem dL_law_286 : decode cL_law 286 = .ok (.iadd, 1) := by decide +kernel
theorem dL_law_287 : decode cL_law 287 = .ok (.iaload, 1) := by decide +kernel
theorem dL_law_288 : decode cL_law 288 = .ok (.invokevirtual 27, 3) := by decide +kernel
theorem wd_566 : (Jvm.Cond.selects "ParlourLeaves" ({ cls := "ParlourLeaves", name := "end", desc := "(I)Z" } : Jvm.MethodName) ({ cls := "ParlourLeaves", name := "end", desc := "(I)Z" } : Jvm.MethodName)) ∈ zTB := List.mem_filter.mpr ⟨List.mem_append_right _ (List.mem_append_right _ (List.mem_append_right _ (List.mem_append_left _ (List.mem_of_getElem? (i := 86) rfl)))), rfl⟩
theorem wd_564 : (Jvm.Cond.methodLink "ParlourLeavesLaw" (27 : Nat) ({ cls := "ParlourLeaves", name := "end", desc := "(I)Z" } : Jvm.MethodName)) ∈ zTB := List.mem_filter.mpr ⟨List.mem_append_right _ (List.mem_append_right _ (List.mem_append_right _ (List.mem_append_left _ (List.mem_of_getElem? (i := 84) rfl)))), rfl⟩
theorem wd_565 : (Jvm.Cond.instanceMethod ({ cls := "ParlourLeaves", name := "end", desc := "(I)Z" } : Jvm.MethodName)) ∈ zTB := List.mem_filter.mpr ⟨List.mem_append_right _ (List.mem_append_right _ (List.mem_append_right _ (List.mem_append_left _ (List.mem_of_getElem? (i := 85) rfl)))), rfl⟩
theorem wd_567 : (Jvm.Cond.code ({ cls := "ParlourLeaves", name := "end", desc := "(I)Z" } : Jvm.MethodName) prog_1_method_3_code (2 : Nat) (Option.some Jvm.ClassFile.FieldType.boolean)) ∈ zTB := List.mem_filter.mpr ⟨List.mem_append_right _ (List.mem_append_right _ (List.mem_append_right _ (List.mem_append_left _ (List.mem_of_getElem? (i := 87) rfl)))), rfl⟩
theorem cv_L_27 : zCV RL RX11 27 yX11_end cX11_end 2 (some .boolean) 1 := ⟨rfl, ⟨by decide, by decide, by decide +kernel⟩, wd_564, wd_565, wd_566, wd_1, wd_567⟩
theorem dL_law_291 : decode cL_law 291 = .ok (.aload_n 2, 1) := by decide +kernel
theorem dL_law_292 : decode cL_law 292 = .ok (.aload_n 0, 1) := by decide +kernel
theorem dL_law_293 : decode cL_law 293 = .ok (.iload 4, 2) := by decide +kernel
theorem dL_law_295 : decode cL_law 295 = .ok (.iconst 1, 1) := by decide +kernel
theorem dL_law_296 : decode cL_law 296 = .ok (.iadd, 1) := by decide +kernel
theorem dL_law_297 : decode cL_law 297 = .ok (.iaload, 1) := by decide +kernel
theorem dL_law_298 : decode cL_law 298 = .ok (.invokevirtual 31, 3) := by decide +kernel
theorem wd_1474 : (Jvm.Cond.selects "ParlourLeavesModel" ({ cls := "ParlourLeavesModel", name := "end", desc := "(I)Z" } : Jvm.MethodName) ({ cls := "ParlourLeavesModel", name := "end", desc := "(I)Z" } : Jvm.MethodName)) ∈ zTB := List.mem_filter.mpr ⟨List.mem_append_right _ (List.mem_append_right _ (List.mem_append_right _ (List.mem_append_right _ (List.mem_append_right _ (List.mem_append_right _ (List.mem_append_right _ (List.mem_append_left _ (List.mem_of_getElem? (i := 34) rfl)))))))), rfl⟩
theorem wd_1472 : (Jvm.Cond.methodLink "ParlourLeavesLaw" (31 : Nat) ({ cls := "ParlourLeavesModel", name := "end", desc := "(I)Z" } : Jvm.MethodName)) ∈ zTB := List.mem_filter.mpr ⟨List.mem_append_right _ (List.mem_append_right _ (List.mem_append_right _ (List.mem_append_right _ (List.mem_append_right _ (List.mem_append_right _ (List.mem_append_right _ (List.mem_append_left _ (List.mem_of_getElem? (i := 32) rfl)))))))), rfl⟩
theorem wd_1473 : (Jvm.Cond.instanceMethod ({ cls := "ParlourLeavesModel", name := "end", desc := "(I)Z" } : Jvm.MethodName)) ∈ zTB := List.mem_filter.mpr ⟨List.mem_append_right _ (List.mem_append_right _ (List.mem_append_right _ (List.mem_append_right _ (List.mem_append_right _ (List.mem_append_right _ (List.mem_append_right _ (List.mem_append_left _ (List.mem_of_getElem? (i := 33) rfl)))))))), rfl⟩
theorem wd_1475 : (Jvm.Cond.code ({ cls := "ParlourLeavesModel", name := "end", desc := "(I)Z" } : Jvm.MethodName) prog_14_method_5_code (2 : Nat) (Option.some Jvm.ClassFile.FieldType.boolean)) ∈ zTB := List.mem_filter.mpr ⟨List.mem_append_right _ (List.mem_append_right _ (List.mem_append_right _ (List.mem_append_right _ (List.mem_append_right _ (List.mem_append_right _ (List.mem_append_right _ (List.mem_append_left _ (List.mem_of_getElem? (i := 35) rfl)))))))), rfl⟩
theorem cv_L_31 : zCV RL RX12 31 yX12_end cX12_end 2 (some .boolean) 1 := ⟨rfl, ⟨by decide, by decide, by decide +kernel⟩, wd_1472, wd_1473, wd_1474, wd_19, wd_1475⟩
theorem dL_law_301 : decode cL_law 301 = .ok (.if_icmp .eq 967, 3) := by decide +kernel
set_option maxHeartbeats 1000000 in
set_option maxRecDepth 100000 in
theorem law_1 {p : Program} {l : Launch} {e : Env} {s : State} {m : MethodId} {below : List Frame} {meth : Method} {c : Code} {D : va_G} {cy : Nat → ClassId} {kK kV q qm : Nat → Nat} {o b L i cells slots : Nat} {xs : Nat → Int32} {Q : State → Prop} (cx : zX RL cL_law 7 p s m #[Value.ref b] c D cy) (hE : zEn kK kV (zAL s) s) (hX : va_X b L xs s s.heap) (hbl : b < s.heap.size) (hL : L ≤ 3072) (hi : i + 6 ≤ L) (hcl : cells + 2 ≤ 601024) (hsl : slots + 68 ≤ 7293034) (hl0 : l.stackTraces = false)
    (KC : ∀ (H : Heap) (locs : List Loc) (ls : Array Slot) (c1 s1 : Nat), zIv D cy s q qm o H locs → lv_has ls 7 [(4, .int (nI i)), (0, .ref b), (1, .ref (q 0)), (2, .ref (qm 0)), (3, .ref o)] → c1 ≤ cells + 2 → s1 ≤ slots + 68 → W p l e room_1 s m #[Value.ref b] below meth c H locs c1 s1 Q (F0 m 1268 ls []))
    {H : Heap} {locs : List Loc} {ls : Array Slot} (hv : zIv D cy s q qm o H locs) (hl : lv_has ls 7 [(4, .int (nI i)), (0, .ref b), (1, .ref (q 0)), (2, .ref (qm 0)), (3, .ref o)]) : W p l e room_1 s m #[Value.ref b] below meth c H locs cells slots Q (F0 m 281 ls []) := by
  have hx := cx.1
  have hb := cx.2.1
  have hbA : ¬ zAL s b := Nat.not_le.mpr hbl
  have hRc : zRc cells slots room_1 := ⟨by show cells + 0 ≤ 601024; omega, by show slots + 0 ≤ 7293034; omega⟩
  have in1 : vp_in (nI i + (1 : Int32)) L := zl_in (j := 1) hi hL (by decide)
  obtain ⟨S, T, tx, u, f, r, hu, hse, hw, hS⟩ := hv
  obtain ⟨z, S', T', h1, h2, r2⟩ := ov_end r (xs (nI i + (1 : Int32)).toNatClampNeg)
  refine lv_aload_n (pc := 281) hx hb dL_law_281 rfl (lv_at hl 2 rfl) ?_
  refine lv_aload_n (pc := 282) hx hb dL_law_282 rfl (lv_at hl 1 rfl) ?_
  refine lv_iload (pc := 283) hx hb dL_law_283 (lv_at hl 0 rfl) ?_
  refine lv_iconst (pc := 285) hx hb dL_law_285 zc_1 ?_
  refine lv_iadd (pc := 286) hx hb dL_law_286 ?_
  refine va_sld (pc := 287) hx hb hX hbl hbA hS in1 dL_law_287 ?_
  refine zl_C (pc := 288) (As := [.int (xs (nI i + (1 : Int32)).toNatClampNeg)]) (rest := []) cx cv_L_27 hse (mX11_end hse.qC h1) ⟨⟨rfl, rfl⟩, Nat.le_of_ble_eq_true rfl, Nat.le_of_ble_eq_true rfl⟩ hRc hS hw hl.1 rfl rfl (Nat.le_of_ble_eq_true rfl) dL_law_288 (fun H locs hS hw => ?_)
  refine lv_aload_n (pc := 291) hx hb dL_law_291 rfl (lv_at hl 3 rfl) ?_
  refine lv_aload_n (pc := 292) hx hb dL_law_292 rfl (lv_at hl 1 rfl) ?_
  refine lv_iload (pc := 293) hx hb dL_law_293 (lv_at hl 0 rfl) ?_
  refine lv_iconst (pc := 295) hx hb dL_law_295 zc_1 ?_
  refine lv_iadd (pc := 296) hx hb dL_law_296 ?_
  refine va_sld (pc := 297) hx hb hX hbl hbA hS in1 dL_law_297 ?_
  refine zl_M (pc := 298) (As := [.int (xs (nI i + (1 : Int32)).toNatClampNeg)]) (rest := [.int z]) cx cv_L_31 hse (mX12_end hse.qM h2) ⟨⟨rfl, rfl⟩, Nat.le_of_ble_eq_true rfl, Nat.le_of_ble_eq_true rfl⟩ hRc hS hw hl.1 rfl rfl (Nat.le_of_ble_eq_true rfl) dL_law_298 (fun H locs hS hw => ?_)
  refine lv_icmp_eq (pc := 301) (tgt := 1268) hx hb dL_law_301 (by decide) (fun _ => ?_) (fun c0 => absurd rfl c0)
  exact KC _ _ ls _ _ ⟨S', T', tx, u, f, r2, hu, hse, hw, hS⟩ hl (by omega) (by omega)
theorem dL_law_306 : decode cL_law 306 = .ok (.aload_n 1, 1) := by decide +kernel
theorem dL_law_307 : decode cL_law 307 = .ok (.invokevirtual 32, 3) := by decide +kernel
theorem wd_570 : (Jvm.Cond.selects "ParlourLeaves" ({ cls := "ParlourLeaves", name := "house", desc := "()I" } : Jvm.MethodName) ({ cls := "ParlourLeaves", name := "house", desc := "()I" } : Jvm.MethodName)) ∈ zTB := List.mem_filter.mpr ⟨List.mem_append_right _ (List.mem_append_right _ (List.mem_append_right _ (List.mem_append_left _ (List.mem_of_getElem? (i := 90) rfl)))), rfl⟩
theorem wd_568 : (Jvm.Cond.methodLink "ParlourLeavesLaw" (32 : Nat) ({ cls := "ParlourLeaves", name := "house", desc := "()I" } : Jvm.MethodName)) ∈ zTB := List.mem_filter.mpr ⟨List.mem_append_right _ (List.mem_append_right _ (List.mem_append_right _ (List.mem_append_left _ (List.mem_of_getElem? (i := 88) rfl)))), rfl⟩
theorem wd_569 : (Jvm.Cond.instanceMethod ({ cls := "ParlourLeaves", name := "house", desc := "()I" } : Jvm.MethodName)) ∈ zTB := List.mem_filter.mpr ⟨List.mem_append_right _ (List.mem_append_right _ (List.mem_append_right _ (List.mem_append_left _ (List.mem_of_getElem? (i := 89) rfl)))), rfl⟩
theorem wd_571 : (Jvm.Cond.code ({ cls := "ParlourLeaves", name := "house", desc := "()I" } : Jvm.MethodName) prog_1_method_4_code (2 : Nat) (Option.some Jvm.ClassFile.FieldType.int)) ∈ zTB := List.mem_filter.mpr ⟨List.mem_append_right _ (List.mem_append_right _ (List.mem_append_right _ (List.mem_append_left _ (List.mem_of_getElem? (i := 91) rfl)))), rfl⟩
theorem cv_L_32 : zCV RL RX11 32 yX11_house cX11_house 2 (some .int) 0 := ⟨rfl, ⟨by decide, by decide, by decide +kernel⟩, wd_568, wd_569, wd_570, wd_1, wd_571⟩
theorem dL_law_310 : decode cL_law 310 = .ok (.aload_n 2, 1) := by decide +kernel
theorem dL_law_311 : decode cL_law 311 = .ok (.invokevirtual 36, 3) := by decide +kernel
theorem wd_1623 : (Jvm.Cond.selects "ParlourLeavesModel" ({ cls := "ParlourLeavesModel", name := "house", desc := "()I" } : Jvm.MethodName) ({ cls := "ParlourLeavesModel", name := "house", desc := "()I" } : Jvm.MethodName)) ∈ zTB := List.mem_filter.mpr ⟨List.mem_append_right _ (List.mem_append_right _ (List.mem_append_right _ (List.mem_append_right _ (List.mem_append_right _ (List.mem_append_right _ (List.mem_append_right _ (List.mem_append_left _ (List.mem_of_getElem? (i := 183) rfl)))))))), rfl⟩
theorem wd_1621 : (Jvm.Cond.methodLink "ParlourLeavesLaw" (36 : Nat) ({ cls := "ParlourLeavesModel", name := "house", desc := "()I" } : Jvm.MethodName)) ∈ zTB := List.mem_filter.mpr ⟨List.mem_append_right _ (List.mem_append_right _ (List.mem_append_right _ (List.mem_append_right _ (List.mem_append_right _ (List.mem_append_right _ (List.mem_append_right _ (List.mem_append_left _ (List.mem_of_getElem? (i := 181) rfl)))))))), rfl⟩
theorem wd_1622 : (Jvm.Cond.instanceMethod ({ cls := "ParlourLeavesModel", name := "house", desc := "()I" } : Jvm.MethodName)) ∈ zTB := List.mem_filter.mpr ⟨List.mem_append_right _ (List.mem_append_right _ (List.mem_append_right _ (List.mem_append_right _ (List.mem_append_right _ (List.mem_append_right _ (List.mem_append_right _ (List.mem_append_left _ (List.mem_of_getElem? (i := 182) rfl)))))))), rfl⟩
theorem wd_1624 : (Jvm.Cond.code ({ cls := "ParlourLeavesModel", name := "house", desc := "()I" } : Jvm.MethodName) prog_14_method_39_code (3 : Nat) (Option.some Jvm.ClassFile.FieldType.int)) ∈ zTB := List.mem_filter.mpr ⟨List.mem_append_right _ (List.mem_append_right _ (List.mem_append_right _ (List.mem_append_right _ (List.mem_append_right _ (List.mem_append_right _ (List.mem_append_right _ (List.mem_append_left _ (List.mem_of_getElem? (i := 184) rfl)))))))), rfl⟩
theorem cv_L_36 : zCV RL RX12 36 yX12_house cX12_house 3 (some .int) 0 := ⟨rfl, ⟨by decide, by decide, by decide +kernel⟩, wd_1621, wd_1622, wd_1623, wd_19, wd_1624⟩
theorem dL_law_314 : decode cL_law 314 = .ok (.if_icmp .eq 954, 3) := by decide +kernel
set_option maxHeartbeats 1000000 in
set_option maxRecDepth 100000 in
theorem law_2 {p : Program} {l : Launch} {e : Env} {s : State} {m : MethodId} {below : List Frame} {meth : Method} {c : Code} {D : va_G} {cy : Nat → ClassId} {kK kV q qm : Nat → Nat} {o b L i cells slots : Nat} {xs : Nat → Int32} {Q : State → Prop} (cx : zX RL cL_law 7 p s m #[Value.ref b] c D cy) (hE : zEn kK kV (zAL s) s) (hX : va_X b L xs s s.heap) (hbl : b < s.heap.size) (hL : L ≤ 3072) (hi : i + 6 ≤ L) (hcl : cells + 2 ≤ 601024) (hsl : slots + 68 ≤ 7293034) (hl0 : l.stackTraces = false)
    (KC : ∀ (H : Heap) (locs : List Loc) (ls : Array Slot) (c1 s1 : Nat), zIv D cy s q qm o H locs → lv_has ls 7 [(4, .int (nI i)), (0, .ref b), (1, .ref (q 0)), (2, .ref (qm 0)), (3, .ref o)] → c1 ≤ cells + 2 → s1 ≤ slots + 68 → W p l e room_1 s m #[Value.ref b] below meth c H locs c1 s1 Q (F0 m 1268 ls []))
    {H : Heap} {locs : List Loc} {ls : Array Slot} (hv : zIv D cy s q qm o H locs) (hl : lv_has ls 7 [(4, .int (nI i)), (0, .ref b), (1, .ref (q 0)), (2, .ref (qm 0)), (3, .ref o)]) : W p l e room_1 s m #[Value.ref b] below meth c H locs cells slots Q (F0 m 306 ls []) := by
  have hx := cx.1
  have hb := cx.2.1
  have hbA : ¬ zAL s b := Nat.not_le.mpr hbl
  have hRc : zRc cells slots room_1 := ⟨by show cells + 0 ≤ 601024; omega, by show slots + 0 ≤ 7293034; omega⟩
  obtain ⟨S, T, tx, u, f, r, hu, hse, hw, hS⟩ := hv
  obtain ⟨z, S', T', h1, h2, r2⟩ := ov_house r 
  refine lv_aload_n (pc := 306) hx hb dL_law_306 rfl (lv_at hl 2 rfl) ?_
  refine zl_CS (pc := 307) (As := []) (rest := []) cx hE cv_L_32 hse (mX11_house hse.qC h1) ⟨⟨rfl, rfl⟩, Nat.le_of_ble_eq_true rfl, Nat.le_of_ble_eq_true rfl⟩ hRc hS hw hl.1 rfl rfl (Nat.le_of_ble_eq_true rfl) dL_law_307 (fun H locs hS hw => ?_)
  refine lv_aload_n (pc := 310) hx hb dL_law_310 rfl (lv_at hl 3 rfl) ?_
  refine zl_M (pc := 311) (As := []) (rest := [.int z]) cx cv_L_36 hse (mX12_house hse.qM h2) ⟨⟨rfl, rfl⟩, Nat.le_of_ble_eq_true rfl, Nat.le_of_ble_eq_true rfl⟩ hRc hS hw hl.1 rfl rfl (Nat.le_of_ble_eq_true rfl) dL_law_311 (fun H locs hS hw => ?_)
  refine lv_icmp_eq (pc := 314) (tgt := 1268) hx hb dL_law_314 (by decide) (fun _ => ?_) (fun c0 => absurd rfl c0)
  exact KC _ _ ls _ _ ⟨S', T', tx, u, f, r2, hu, hse, hw, hS⟩ hl (by omega) (by omega)
theorem dL_law_319 : decode cL_law 319 = .ok (.aload_n 1, 1) := by decide +kernel
theorem dL_law_320 : decode cL_law 320 = .ok (.invokevirtual 37, 3) := by decide +kernel
theorem wd_693 : (Jvm.Cond.selects "ParlourLeaves" ({ cls := "ParlourLeaves", name := "fault", desc := "()I" } : Jvm.MethodName) ({ cls := "ParlourLeaves", name := "fault", desc := "()I" } : Jvm.MethodName)) ∈ zTB := List.mem_filter.mpr ⟨List.mem_append_right _ (List.mem_append_right _ (List.mem_append_right _ (List.mem_append_left _ (List.mem_of_getElem? (i := 213) rfl)))), rfl⟩
theorem wd_691 : (Jvm.Cond.methodLink "ParlourLeavesLaw" (37 : Nat) ({ cls := "ParlourLeaves", name := "fault", desc := "()I" } : Jvm.MethodName)) ∈ zTB := List.mem_filter.mpr ⟨List.mem_append_right _ (List.mem_append_right _ (List.mem_append_right _ (List.mem_append_left _ (List.mem_of_getElem? (i := 211) rfl)))), rfl⟩
theorem wd_692 : (Jvm.Cond.instanceMethod ({ cls := "ParlourLeaves", name := "fault", desc := "()I" } : Jvm.MethodName)) ∈ zTB := List.mem_filter.mpr ⟨List.mem_append_right _ (List.mem_append_right _ (List.mem_append_right _ (List.mem_append_left _ (List.mem_of_getElem? (i := 212) rfl)))), rfl⟩
theorem wd_694 : (Jvm.Cond.code ({ cls := "ParlourLeaves", name := "fault", desc := "()I" } : Jvm.MethodName) prog_1_method_5_code (1 : Nat) (Option.some Jvm.ClassFile.FieldType.int)) ∈ zTB := List.mem_filter.mpr ⟨List.mem_append_right _ (List.mem_append_right _ (List.mem_append_right _ (List.mem_append_left _ (List.mem_of_getElem? (i := 214) rfl)))), rfl⟩
theorem cv_L_37 : zCV RL RX11 37 yX11_fault cX11_fault 1 (some .int) 0 := ⟨rfl, ⟨by decide, by decide, by decide +kernel⟩, wd_691, wd_692, wd_693, wd_1, wd_694⟩
theorem dL_law_323 : decode cL_law 323 = .ok (.aload_n 2, 1) := by decide +kernel
theorem dL_law_324 : decode cL_law 324 = .ok (.invokevirtual 40, 3) := by decide +kernel
theorem wd_1730 : (Jvm.Cond.selects "ParlourLeavesModel" ({ cls := "ParlourLeavesModel", name := "fault", desc := "()I" } : Jvm.MethodName) ({ cls := "ParlourLeavesModel", name := "fault", desc := "()I" } : Jvm.MethodName)) ∈ zTB := List.mem_filter.mpr ⟨List.mem_append_right _ (List.mem_append_right _ (List.mem_append_right _ (List.mem_append_right _ (List.mem_append_right _ (List.mem_append_right _ (List.mem_append_right _ (List.mem_append_right _ (List.mem_append_left _ (List.mem_of_getElem? (i := 50) rfl))))))))), rfl⟩
theorem wd_1728 : (Jvm.Cond.methodLink "ParlourLeavesLaw" (40 : Nat) ({ cls := "ParlourLeavesModel", name := "fault", desc := "()I" } : Jvm.MethodName)) ∈ zTB := List.mem_filter.mpr ⟨List.mem_append_right _ (List.mem_append_right _ (List.mem_append_right _ (List.mem_append_right _ (List.mem_append_right _ (List.mem_append_right _ (List.mem_append_right _ (List.mem_append_right _ (List.mem_append_left _ (List.mem_of_getElem? (i := 48) rfl))))))))), rfl⟩
theorem wd_1729 : (Jvm.Cond.instanceMethod ({ cls := "ParlourLeavesModel", name := "fault", desc := "()I" } : Jvm.MethodName)) ∈ zTB := List.mem_filter.mpr ⟨List.mem_append_right _ (List.mem_append_right _ (List.mem_append_right _ (List.mem_append_right _ (List.mem_append_right _ (List.mem_append_right _ (List.mem_append_right _ (List.mem_append_right _ (List.mem_append_left _ (List.mem_of_getElem? (i := 49) rfl))))))))), rfl⟩
theorem wd_1731 : (Jvm.Cond.code ({ cls := "ParlourLeavesModel", name := "fault", desc := "()I" } : Jvm.MethodName) prog_14_method_40_code (1 : Nat) (Option.some Jvm.ClassFile.FieldType.int)) ∈ zTB := List.mem_filter.mpr ⟨List.mem_append_right _ (List.mem_append_right _ (List.mem_append_right _ (List.mem_append_right _ (List.mem_append_right _ (List.mem_append_right _ (List.mem_append_right _ (List.mem_append_right _ (List.mem_append_left _ (List.mem_of_getElem? (i := 51) rfl))))))))), rfl⟩
theorem cv_L_40 : zCV RL RX12 40 yX12_fault cX12_fault 1 (some .int) 0 := ⟨rfl, ⟨by decide, by decide, by decide +kernel⟩, wd_1728, wd_1729, wd_1730, wd_19, wd_1731⟩
theorem dL_law_327 : decode cL_law 327 = .ok (.if_icmp .eq 941, 3) := by decide +kernel
set_option maxHeartbeats 1000000 in
set_option maxRecDepth 100000 in
theorem law_3 {p : Program} {l : Launch} {e : Env} {s : State} {m : MethodId} {below : List Frame} {meth : Method} {c : Code} {D : va_G} {cy : Nat → ClassId} {kK kV q qm : Nat → Nat} {o b L i cells slots : Nat} {xs : Nat → Int32} {Q : State → Prop} (cx : zX RL cL_law 7 p s m #[Value.ref b] c D cy) (hE : zEn kK kV (zAL s) s) (hX : va_X b L xs s s.heap) (hbl : b < s.heap.size) (hL : L ≤ 3072) (hi : i + 6 ≤ L) (hcl : cells + 2 ≤ 601024) (hsl : slots + 68 ≤ 7293034) (hl0 : l.stackTraces = false)
    (KC : ∀ (H : Heap) (locs : List Loc) (ls : Array Slot) (c1 s1 : Nat), zIv D cy s q qm o H locs → lv_has ls 7 [(4, .int (nI i)), (0, .ref b), (1, .ref (q 0)), (2, .ref (qm 0)), (3, .ref o)] → c1 ≤ cells + 2 → s1 ≤ slots + 68 → W p l e room_1 s m #[Value.ref b] below meth c H locs c1 s1 Q (F0 m 1268 ls []))
    {H : Heap} {locs : List Loc} {ls : Array Slot} (hv : zIv D cy s q qm o H locs) (hl : lv_has ls 7 [(4, .int (nI i)), (0, .ref b), (1, .ref (q 0)), (2, .ref (qm 0)), (3, .ref o)]) : W p l e room_1 s m #[Value.ref b] below meth c H locs cells slots Q (F0 m 319 ls []) := by
  have hx := cx.1
  have hb := cx.2.1
  have hbA : ¬ zAL s b := Nat.not_le.mpr hbl
  have hRc : zRc cells slots room_1 := ⟨by show cells + 0 ≤ 601024; omega, by show slots + 0 ≤ 7293034; omega⟩
  obtain ⟨S, T, tx, u, f, r, hu, hse, hw, hS⟩ := hv
  obtain ⟨z, T', h1, h2, r2⟩ := ov_fault r 
  refine lv_aload_n (pc := 319) hx hb dL_law_319 rfl (lv_at hl 2 rfl) ?_
  refine zr_VI (pc := 320) (As := []) (rest := []) cx cv_L_37 (mX11_fault h1) ⟨⟨rfl, rfl⟩, Nat.le_of_ble_eq_true rfl, Nat.le_of_ble_eq_true rfl⟩ hRc hw.1 nC_0 sC_0 rfl hl.1 rfl rfl (Nat.le_of_ble_eq_true rfl) dL_law_320 ?_
  refine lv_aload_n (pc := 323) hx hb dL_law_323 rfl (lv_at hl 3 rfl) ?_
  refine zl_M (pc := 324) (As := []) (rest := [.int z]) cx cv_L_40 hse (mX12_fault hse.qM h2) ⟨⟨rfl, rfl⟩, Nat.le_of_ble_eq_true rfl, Nat.le_of_ble_eq_true rfl⟩ hRc hS hw hl.1 rfl rfl (Nat.le_of_ble_eq_true rfl) dL_law_324 (fun H locs hS hw => ?_)
  refine lv_icmp_eq (pc := 327) (tgt := 1268) hx hb dL_law_327 (by decide) (fun _ => ?_) (fun c0 => absurd rfl c0)
  exact KC _ _ ls _ _ ⟨S, T', tx, u, f, r2, hu, hse, hw, hS⟩ hl (by omega) (by omega)
theorem dL_law_332 : decode cL_law 332 = .ok (.aload_n 1, 1) := by decide +kernel
theorem dL_law_333 : decode cL_law 333 = .ok (.aload_n 0, 1) := by decide +kernel
theorem dL_law_334 : decode cL_law 334 = .ok (.iload 4, 2) := by decide +kernel
theorem dL_law_336 : decode cL_law 336 = .ok (.iconst 1, 1) := by decide +kernel
theorem dL_law_337 : decode cL_law 337 = .ok (.iadd, 1) := by decide +kernel
theorem dL_law_338 : decode cL_law 338 = .ok (.iaload, 1) := by decide +kernel
theorem dL_law_339 : decode cL_law 339 = .ok (.aload_n 0, 1) := by decide +kernel
theorem dL_law_340 : decode cL_law 340 = .ok (.iload 4, 2) := by decide +kernel
theorem dL_law_342 : decode cL_law 342 = .ok (.iconst 2, 1) := by decide +kernel
theorem dL_law_343 : decode cL_law 343 = .ok (.iadd, 1) := by decide +kernel
theorem dL_law_344 : decode cL_law 344 = .ok (.iaload, 1) := by decide +kernel
theorem dL_law_345 : decode cL_law 345 = .ok (.aload_n 3, 1) := by decide +kernel
theorem dL_law_346 : decode cL_law 346 = .ok (.invokestatic 41, 3) := by decide +kernel
theorem wd_1376 : (Jvm.Cond.methodLink "ParlourLeavesLaw" (41 : Nat) ({ cls := "ParlourLeavesLaw", name := "plant", desc := "(LParlourLeaves;II[J)I" } : Jvm.MethodName)) ∈ zTB := List.mem_filter.mpr ⟨List.mem_append_right _ (List.mem_append_right _ (List.mem_append_right _ (List.mem_append_right _ (List.mem_append_right _ (List.mem_append_right _ (List.mem_append_left _ (List.mem_of_getElem? (i := 176) rfl))))))), rfl⟩
theorem wd_1377 : (Jvm.Cond.static ({ cls := "ParlourLeavesLaw", name := "plant", desc := "(LParlourLeaves;II[J)I" } : Jvm.MethodName)) ∈ zTB := List.mem_filter.mpr ⟨List.mem_append_right _ (List.mem_append_right _ (List.mem_append_right _ (List.mem_append_right _ (List.mem_append_right _ (List.mem_append_right _ (List.mem_append_left _ (List.mem_of_getElem? (i := 177) rfl))))))), rfl⟩
theorem wd_0 : (Jvm.Cond.initialized "ParlourLeavesLaw") ∈ zTB := List.mem_filter.mpr ⟨List.mem_append_right _ (List.mem_append_left _ (List.mem_of_getElem? (i := 0) rfl)), rfl⟩
theorem wd_1378 : (Jvm.Cond.codeWith ({ cls := "ParlourLeavesLaw", name := "plant", desc := "(LParlourLeaves;II[J)I" } : Jvm.MethodName) method_3_code (5 : Nat) (Option.some Jvm.ClassFile.FieldType.int) [((0 : Nat), (10 : Nat), (13 : Nat), (13 : Nat))]) ∈ zTB := List.mem_filter.mpr ⟨List.mem_append_right _ (List.mem_append_right _ (List.mem_append_right _ (List.mem_append_right _ (List.mem_append_right _ (List.mem_append_right _ (List.mem_append_left _ (List.mem_of_getElem? (i := 178) rfl))))))), rfl⟩
theorem dL_law_349 : decode cL_law 349 = .ok (.istore 5, 2) := by decide +kernel
theorem dL_law_351 : decode cL_law 351 = .ok (.aload_n 2, 1) := by decide +kernel
theorem dL_law_352 : decode cL_law 352 = .ok (.aload_n 0, 1) := by decide +kernel
theorem dL_law_353 : decode cL_law 353 = .ok (.iload 4, 2) := by decide +kernel
theorem dL_law_355 : decode cL_law 355 = .ok (.iconst 1, 1) := by decide +kernel
theorem dL_law_356 : decode cL_law 356 = .ok (.iadd, 1) := by decide +kernel
theorem dL_law_357 : decode cL_law 357 = .ok (.iaload, 1) := by decide +kernel
theorem dL_law_358 : decode cL_law 358 = .ok (.aload_n 0, 1) := by decide +kernel
theorem dL_law_359 : decode cL_law 359 = .ok (.iload 4, 2) := by decide +kernel
theorem dL_law_361 : decode cL_law 361 = .ok (.iconst 2, 1) := by decide +kernel
theorem dL_law_362 : decode cL_law 362 = .ok (.iadd, 1) := by decide +kernel
theorem dL_law_363 : decode cL_law 363 = .ok (.iaload, 1) := by decide +kernel
theorem dL_law_364 : decode cL_law 364 = .ok (.invokevirtual 46, 3) := by decide +kernel
theorem wd_1734 : (Jvm.Cond.selects "ParlourLeavesModel" ({ cls := "ParlourLeavesModel", name := "plant", desc := "(II)I" } : Jvm.MethodName) ({ cls := "ParlourLeavesModel", name := "plant", desc := "(II)I" } : Jvm.MethodName)) ∈ zTB := List.mem_filter.mpr ⟨List.mem_append_right _ (List.mem_append_right _ (List.mem_append_right _ (List.mem_append_right _ (List.mem_append_right _ (List.mem_append_right _ (List.mem_append_right _ (List.mem_append_right _ (List.mem_append_left _ (List.mem_of_getElem? (i := 54) rfl))))))))), rfl⟩
theorem wd_1732 : (Jvm.Cond.methodLink "ParlourLeavesLaw" (46 : Nat) ({ cls := "ParlourLeavesModel", name := "plant", desc := "(II)I" } : Jvm.MethodName)) ∈ zTB := List.mem_filter.mpr ⟨List.mem_append_right _ (List.mem_append_right _ (List.mem_append_right _ (List.mem_append_right _ (List.mem_append_right _ (List.mem_append_right _ (List.mem_append_right _ (List.mem_append_right _ (List.mem_append_left _ (List.mem_of_getElem? (i := 52) rfl))))))))), rfl⟩
theorem wd_1733 : (Jvm.Cond.instanceMethod ({ cls := "ParlourLeavesModel", name := "plant", desc := "(II)I" } : Jvm.MethodName)) ∈ zTB := List.mem_filter.mpr ⟨List.mem_append_right _ (List.mem_append_right _ (List.mem_append_right _ (List.mem_append_right _ (List.mem_append_right _ (List.mem_append_right _ (List.mem_append_right _ (List.mem_append_right _ (List.mem_append_left _ (List.mem_of_getElem? (i := 53) rfl))))))))), rfl⟩
theorem wd_1735 : (Jvm.Cond.code ({ cls := "ParlourLeavesModel", name := "plant", desc := "(II)I" } : Jvm.MethodName) prog_14_method_56_code (3 : Nat) (Option.some Jvm.ClassFile.FieldType.int)) ∈ zTB := List.mem_filter.mpr ⟨List.mem_append_right _ (List.mem_append_right _ (List.mem_append_right _ (List.mem_append_right _ (List.mem_append_right _ (List.mem_append_right _ (List.mem_append_right _ (List.mem_append_right _ (List.mem_append_left _ (List.mem_of_getElem? (i := 55) rfl))))))))), rfl⟩
theorem cv_L_46 : zCV RL RX12 46 yX12_plant cX12_plant 3 (some .int) 2 := ⟨rfl, ⟨by decide, by decide, by decide +kernel⟩, wd_1732, wd_1733, wd_1734, wd_19, wd_1735⟩
theorem dL_law_367 : decode cL_law 367 = .ok (.istore 6, 2) := by decide +kernel
theorem dL_law_369 : decode cL_law 369 = .ok (.aload_n 2, 1) := by decide +kernel
theorem dL_law_370 : decode cL_law 370 = .ok (.invokevirtual 47, 3) := by decide +kernel
theorem wd_1461 : (Jvm.Cond.selects "ParlourLeavesModel" ({ cls := "ParlourLeavesModel", name := "thrown", desc := "()I" } : Jvm.MethodName) ({ cls := "ParlourLeavesModel", name := "thrown", desc := "()I" } : Jvm.MethodName)) ∈ zTB := List.mem_filter.mpr ⟨List.mem_append_right _ (List.mem_append_right _ (List.mem_append_right _ (List.mem_append_right _ (List.mem_append_right _ (List.mem_append_right _ (List.mem_append_right _ (List.mem_append_left _ (List.mem_of_getElem? (i := 21) rfl)))))))), rfl⟩
theorem wd_1459 : (Jvm.Cond.methodLink "ParlourLeavesLaw" (47 : Nat) ({ cls := "ParlourLeavesModel", name := "thrown", desc := "()I" } : Jvm.MethodName)) ∈ zTB := List.mem_filter.mpr ⟨List.mem_append_right _ (List.mem_append_right _ (List.mem_append_right _ (List.mem_append_right _ (List.mem_append_right _ (List.mem_append_right _ (List.mem_append_right _ (List.mem_append_left _ (List.mem_of_getElem? (i := 19) rfl)))))))), rfl⟩
theorem wd_1460 : (Jvm.Cond.instanceMethod ({ cls := "ParlourLeavesModel", name := "thrown", desc := "()I" } : Jvm.MethodName)) ∈ zTB := List.mem_filter.mpr ⟨List.mem_append_right _ (List.mem_append_right _ (List.mem_append_right _ (List.mem_append_right _ (List.mem_append_right _ (List.mem_append_right _ (List.mem_append_right _ (List.mem_append_left _ (List.mem_of_getElem? (i := 20) rfl)))))))), rfl⟩
theorem wd_1462 : (Jvm.Cond.code ({ cls := "ParlourLeavesModel", name := "thrown", desc := "()I" } : Jvm.MethodName) prog_14_method_1_code (1 : Nat) (Option.some Jvm.ClassFile.FieldType.int)) ∈ zTB := List.mem_filter.mpr ⟨List.mem_append_right _ (List.mem_append_right _ (List.mem_append_right _ (List.mem_append_right _ (List.mem_append_right _ (List.mem_append_right _ (List.mem_append_right _ (List.mem_append_left _ (List.mem_of_getElem? (i := 22) rfl)))))))), rfl⟩
theorem cv_L_47 : zCV RL RX12 47 yX12_thrown cX12_thrown 1 (some .int) 0 := ⟨rfl, ⟨by decide, by decide, by decide +kernel⟩, wd_1459, wd_1460, wd_1461, wd_19, wd_1462⟩
theorem dL_law_373 : decode cL_law 373 = .ok (.iload 5, 2) := by decide +kernel
theorem dL_law_375 : decode cL_law 375 = .ok (.if_icmp .eq 5, 3) := by decide +kernel
theorem dL_law_380 : decode cL_law 380 = .ok (.iload 5, 2) := by decide +kernel
theorem dL_law_382 : decode cL_law 382 = .ok (.ifCond .ne 15, 3) := by decide +kernel
theorem dL_law_397 : decode cL_law 397 = .ok (.goto 871, 3) := by decide +kernel
theorem dL_law_385 : decode cL_law 385 = .ok (.aload_n 3, 1) := by decide +kernel
theorem dL_law_386 : decode cL_law 386 = .ok (.iconst 0, 1) := by decide +kernel
theorem dL_law_387 : decode cL_law 387 = .ok (.laload, 1) := by decide +kernel
theorem dL_law_388 : decode cL_law 388 = .ok (.iload 6, 2) := by decide +kernel
theorem dL_law_390 : decode cL_law 390 = .ok (.i2l, 1) := by decide +kernel
theorem dL_law_391 : decode cL_law 391 = .ok (.lcmp, 1) := by decide +kernel
theorem dL_law_392 : decode cL_law 392 = .ok (.ifCond .eq 5, 3) := by decide +kernel
theorem zcmp_self (x : Int64) : lg_cmp x x = 0 := by unfold lg_cmp; simp
set_option maxHeartbeats 1000000 in
set_option maxRecDepth 100000 in
theorem law_4 {p : Program} {l : Launch} {e : Env} {s : State} {m : MethodId} {below : List Frame} {meth : Method} {c : Code} {D : va_G} {cy : Nat → ClassId} {kK kV q qm : Nat → Nat} {o b L i cells slots : Nat} {xs : Nat → Int32} {Q : State → Prop} (cx : zX RL cL_law 7 p s m #[Value.ref b] c D cy) (hE : zEn kK kV (zAL s) s) (hX : va_X b L xs s s.heap) (hbl : b < s.heap.size) (hL : L ≤ 3072) (hi : i + 6 ≤ L) (hcl : cells + 2 ≤ 601024) (hsl : slots + 68 ≤ 7293034) (hl0 : l.stackTraces = false)
    (KC : ∀ (H : Heap) (locs : List Loc) (ls : Array Slot) (c1 s1 : Nat), zIv D cy s q qm o H locs → lv_has ls 7 [(4, .int (nI i)), (0, .ref b), (1, .ref (q 0)), (2, .ref (qm 0)), (3, .ref o)] → c1 ≤ cells + 2 → s1 ≤ slots + 68 → W p l e room_1 s m #[Value.ref b] below meth c H locs c1 s1 Q (F0 m 1268 ls []))
    {H : Heap} {locs : List Loc} {ls : Array Slot} (hv : zIv D cy s q qm o H locs) (hl : lv_has ls 7 [(4, .int (nI i)), (0, .ref b), (1, .ref (q 0)), (2, .ref (qm 0)), (3, .ref o)]) : W p l e room_1 s m #[Value.ref b] below meth c H locs cells slots Q (F0 m 332 ls []) := by
  have hx := cx.1
  have hb := cx.2.1
  have hbA : ¬ zAL s b := Nat.not_le.mpr hbl
  have hRc : zRc cells slots room_1 := ⟨by show cells + 0 ≤ 601024; omega, by show slots + 0 ≤ 7293034; omega⟩
  have in1 : vp_in (nI i + (1 : Int32)) L := zl_in (j := 1) hi hL (by decide)
  have in2 : vp_in (nI i + (2 : Int32)) L := zl_in (j := 2) hi hL (by decide)
  obtain ⟨S, T, tx, u, f, r, hu, hse, hw, hS⟩ := hv
  obtain ⟨x, z, T', h1, h2, r2, hx9⟩ := ov_plant r (xs (nI i + (1 : Int32)).toNatClampNeg) (xs (nI i + (2 : Int32)).toNatClampNeg)
  have hsub : ∀ a, (a = o ∨ H.size ≤ a) → zAL s a := by
    rintro a (rfl | h)
    · exact hse.2.2.2.2.2.2.1
    · exact Nat.le_trans hS.1 h
  refine lv_aload_n (pc := 332) hx hb dL_law_332 rfl (lv_at hl 2 rfl) ?_
  refine lv_aload_n (pc := 333) hx hb dL_law_333 rfl (lv_at hl 1 rfl) ?_
  refine lv_iload (pc := 334) hx hb dL_law_334 (lv_at hl 0 rfl) ?_
  refine lv_iconst (pc := 336) hx hb dL_law_336 zc_1 ?_
  refine lv_iadd (pc := 337) hx hb dL_law_337 ?_
  refine va_sld (pc := 338) hx hb hX hbl hbA hS in1 dL_law_338 ?_
  refine lv_aload_n (pc := 339) hx hb dL_law_339 rfl (lv_at hl 1 rfl) ?_
  refine lv_iload (pc := 340) hx hb dL_law_340 (lv_at hl 0 rfl) ?_
  refine lv_iconst (pc := 342) hx hb dL_law_342 zc_2 ?_
  refine lv_iadd (pc := 343) hx hb dL_law_343 ?_
  refine va_sld (pc := 344) hx hb hX hbl hbA hS in2 dL_law_344 ?_
  refine lv_aload_n (pc := 345) hx hb dL_law_345 rfl (lv_at hl 4 rfl) ?_
  refine va_calli (A0 := zAL s) (zr_runSW (As := [.ref (q 0), .int (xs (nI i + (1 : Int32)).toNatClampNeg), .int (xs (nI i + (2 : Int32)).toNatClampNeg), .ref o]) (rest := []) cx ⟨by decide, by decide, by show _ = some 4; decide +kernel⟩ wd_1376 wd_1377 wd_0 wd_1378 (mL_plant (A := (fun a => a = o ∨ H.size ≤ a)) (f := f) (kK := kK) (kV := kV) hl0 h1 (Or.inl rfl)) rfl rfl ⟨Nat.le_of_ble_eq_true rfl, Nat.le_of_ble_eq_true rfl⟩ (zr_preS (fun a U g mk h => ⟨h.1, h.2.1, zPr_bl a U g mk h.2.2.1, zEn_bl a U g mk h.2.2.2⟩) (fun U hU hW => ⟨fun q9 h9 => Or.inr (by rw [hU] at h9; exact h9), by rw [hU]; exact hw.2.2.2, zr_pre cx hw.1 U hU hW, (hE.at hS.2.1 hU hW).narrow hsub⟩)) rfl rfl hl.1 rfl (lv_room (Nat.le_of_ble_eq_true rfl)) dL_law_346 ⟨by show cells + 1 ≤ 601024; omega, by show slots + 6 ≤ 7293034; omega⟩) hS (fun a _ h => hsub a h) hsub (fun rr f2 t H1 locs ht _ hpost hB hz hk hS => ?_)
  subst ht
  have hw := hw.setO hse hB hk
  have hRc : zRc (cells + 1) (slots + 6) room_1 := ⟨by show cells + 1 + 0 ≤ 601024; omega, by show slots + 6 + 0 ≤ 7293034; omega⟩
  refine lv_istore (lv' := [(5, .int rr), (4, .int (nI i)), (0, .ref b), (1, .ref (q 0)), (2, .ref (qm 0)), (3, .ref o)]) (pc := 349) hx hb dL_law_349 hl (by decide) rfl (fun ls hl => ?_)
  refine lv_aload_n (pc := 351) hx hb dL_law_351 rfl (lv_at hl 4 rfl) ?_
  refine lv_aload_n (pc := 352) hx hb dL_law_352 rfl (lv_at hl 2 rfl) ?_
  refine lv_iload (pc := 353) hx hb dL_law_353 (lv_at hl 1 rfl) ?_
  refine lv_iconst (pc := 355) hx hb dL_law_355 zc_1 ?_
  refine lv_iadd (pc := 356) hx hb dL_law_356 ?_
  refine va_sld (pc := 357) hx hb hX hbl hbA hS in1 dL_law_357 ?_
  refine lv_aload_n (pc := 358) hx hb dL_law_358 rfl (lv_at hl 2 rfl) ?_
  refine lv_iload (pc := 359) hx hb dL_law_359 (lv_at hl 1 rfl) ?_
  refine lv_iconst (pc := 361) hx hb dL_law_361 zc_2 ?_
  refine lv_iadd (pc := 362) hx hb dL_law_362 ?_
  refine va_sld (pc := 363) hx hb hX hbl hbA hS in2 dL_law_363 ?_
  refine zl_M (pc := 364) (As := [.int (xs (nI i + (1 : Int32)).toNatClampNeg), .int (xs (nI i + (2 : Int32)).toNatClampNeg)]) (rest := []) cx cv_L_46 hse (mX12_plant hse.qM h2) ⟨⟨rfl, rfl⟩, Nat.le_of_ble_eq_true rfl, Nat.le_of_ble_eq_true rfl⟩ hRc hS hw hl.1 rfl rfl (Nat.le_of_ble_eq_true rfl) dL_law_364 (fun H locs hS hw => ?_)
  refine lv_istore (lv' := [(6, .int z), (5, .int rr), (4, .int (nI i)), (0, .ref b), (1, .ref (q 0)), (2, .ref (qm 0)), (3, .ref o)]) (pc := 367) hx hb dL_law_367 hl (by decide) rfl (fun ls hl => ?_)
  refine lv_aload_n (pc := 369) hx hb dL_law_369 rfl (lv_at hl 5 rfl) ?_
  refine zr_VI (pc := 370) (As := []) (rest := []) cx cv_L_47 (mX12_thrown (z := T'.1 0 0) rfl) ⟨⟨rfl, rfl⟩, Nat.le_of_ble_eq_true rfl, Nat.le_of_ble_eq_true rfl⟩ hRc hw.2.2.1 nM_0 sM_0 rfl hl.1 rfl rfl (Nat.le_of_ble_eq_true rfl) dL_law_370 ?_
  refine lv_iload (pc := 373) hx hb dL_law_373 (lv_at hl 1 rfl) ?_
  have hsame : T'.1 0 0 = rr := by
    rcases hx9 with ⟨e1, e2⟩ | ⟨e1, e2⟩ <;> rcases hpost with ⟨z9, e3, e4, -⟩ | ⟨e3, e4⟩ <;> first | (rw [e1] at e3; cases e3; done) | rw [e2, e4]
  refine lv_icmp_eq (pc := 375) (tgt := 380) hx hb dL_law_375 (by decide) (fun _ => ?_) (fun c0 => absurd hsame c0)
  refine lv_iload (pc := 380) hx hb dL_law_380 (lv_at hl 1 rfl) ?_
  refine lv_if_ne (pc := 382) (tgt := 397) hx hb dL_law_382 (by decide) (fun c1 => ?_) (fun c1 => ?_)
  · refine lv_goto (pc := 397) (tgt := 1268) hx hb dL_law_397 (by decide) ?_
    exact KC _ _ ls _ _ ⟨S, T', tx, u, f2, r2, hu, hse, hw, hS⟩ (lv_sub hl [2, 3, 4, 5, 6] rfl) (by omega) (by omega)
  · have hz9 : f2 0 = z.toInt64 := by
      rcases hx9 with ⟨e1, e2⟩ | ⟨e1, e2⟩ <;> rcases hpost with ⟨z9, e3, e4, e5⟩ | ⟨e3, e4⟩
      · rw [e1] at e3; cases e3; exact e5
      · rw [e1] at e3; cases e3
      · rw [e1] at e3; cases e3
      · rw [e4] at c1; exact absurd c1 (by decide)
    refine lv_aload_n (pc := 385) hx hb dL_law_385 rfl (lv_at hl 6 rfl) ?_
    refine lv_iconst (pc := 386) hx hb dL_law_386 zc_0 ?_
    refine va_lald (pc := 387) hx hb cx.2.2.2.2.2.1 hw.2.2.2 0 1 rfl rfl (show vp_in (0 : Int32) 1 from zIx_in (show zIx 0 1 = true by decide)) dL_law_387 ?_
    refine lv_iload (pc := 388) hx hb dL_law_388 (lv_at hl 0 rfl) ?_
    refine lv_i2l (v := z.toInt64) (pc := 390) hx hb dL_law_390 rfl ?_
    refine W.lcmp (pc := 391) hx hb dL_law_391 ?_
    refine lv_if_eq (pc := 392) (tgt := 397) hx hb dL_law_392 (by decide) (fun _ => ?_) (fun c2 => absurd (by show lg_cmp (f2 0) z.toInt64 = 0; rw [hz9]; exact zcmp_self _) c2)
    refine lv_goto (pc := 397) (tgt := 1268) hx hb dL_law_397 (by decide) ?_
    exact KC _ _ ls _ _ ⟨S, T', tx, u, f2, r2, hu, hse, hw, hS⟩ (lv_sub hl [2, 3, 4, 5, 6] rfl) (by omega) (by omega)
theorem dL_law_400 : decode cL_law 400 = .ok (.aload_n 1, 1) := by decide +kernel
theorem dL_law_401 : decode cL_law 401 = .ok (.aload_n 0, 1) := by decide +kernel
theorem dL_law_402 : decode cL_law 402 = .ok (.iload 4, 2) := by decide +kernel
theorem dL_law_404 : decode cL_law 404 = .ok (.iconst 1, 1) := by decide +kernel
theorem dL_law_405 : decode cL_law 405 = .ok (.iadd, 1) := by decide +kernel
theorem dL_law_406 : decode cL_law 406 = .ok (.iaload, 1) := by decide +kernel
theorem dL_law_407 : decode cL_law 407 = .ok (.aload_n 0, 1) := by decide +kernel
theorem dL_law_408 : decode cL_law 408 = .ok (.iload 4, 2) := by decide +kernel
theorem dL_law_410 : decode cL_law 410 = .ok (.iconst 2, 1) := by decide +kernel
theorem dL_law_411 : decode cL_law 411 = .ok (.iadd, 1) := by decide +kernel
theorem dL_law_412 : decode cL_law 412 = .ok (.iaload, 1) := by decide +kernel
theorem dL_law_413 : decode cL_law 413 = .ok (.aload_n 3, 1) := by decide +kernel
theorem dL_law_414 : decode cL_law 414 = .ok (.invokestatic 50, 3) := by decide +kernel
theorem wd_1446 : (Jvm.Cond.methodLink "ParlourLeavesLaw" (50 : Nat) ({ cls := "ParlourLeavesLaw", name := "act", desc := "(LParlourLeaves;II[J)I" } : Jvm.MethodName)) ∈ zTB := List.mem_filter.mpr ⟨List.mem_append_right _ (List.mem_append_right _ (List.mem_append_right _ (List.mem_append_right _ (List.mem_append_right _ (List.mem_append_right _ (List.mem_append_right _ (List.mem_append_left _ (List.mem_of_getElem? (i := 6) rfl)))))))), rfl⟩
theorem wd_1447 : (Jvm.Cond.static ({ cls := "ParlourLeavesLaw", name := "act", desc := "(LParlourLeaves;II[J)I" } : Jvm.MethodName)) ∈ zTB := List.mem_filter.mpr ⟨List.mem_append_right _ (List.mem_append_right _ (List.mem_append_right _ (List.mem_append_right _ (List.mem_append_right _ (List.mem_append_right _ (List.mem_append_right _ (List.mem_append_left _ (List.mem_of_getElem? (i := 7) rfl)))))))), rfl⟩
theorem wd_1448 : (Jvm.Cond.codeWith ({ cls := "ParlourLeavesLaw", name := "act", desc := "(LParlourLeaves;II[J)I" } : Jvm.MethodName) method_4_code (5 : Nat) (Option.some Jvm.ClassFile.FieldType.int) [((0 : Nat), (10 : Nat), (13 : Nat), (13 : Nat))]) ∈ zTB := List.mem_filter.mpr ⟨List.mem_append_right _ (List.mem_append_right _ (List.mem_append_right _ (List.mem_append_right _ (List.mem_append_right _ (List.mem_append_right _ (List.mem_append_right _ (List.mem_append_left _ (List.mem_of_getElem? (i := 8) rfl)))))))), rfl⟩
theorem dL_law_417 : decode cL_law 417 = .ok (.istore 5, 2) := by decide +kernel
theorem dL_law_419 : decode cL_law 419 = .ok (.aload_n 2, 1) := by decide +kernel
theorem dL_law_420 : decode cL_law 420 = .ok (.aload_n 0, 1) := by decide +kernel
theorem dL_law_421 : decode cL_law 421 = .ok (.iload 4, 2) := by decide +kernel
theorem dL_law_423 : decode cL_law 423 = .ok (.iconst 1, 1) := by decide +kernel
theorem dL_law_424 : decode cL_law 424 = .ok (.iadd, 1) := by decide +kernel
theorem dL_law_425 : decode cL_law 425 = .ok (.iaload, 1) := by decide +kernel
theorem dL_law_426 : decode cL_law 426 = .ok (.aload_n 0, 1) := by decide +kernel
theorem dL_law_427 : decode cL_law 427 = .ok (.iload 4, 2) := by decide +kernel
theorem dL_law_429 : decode cL_law 429 = .ok (.iconst 2, 1) := by decide +kernel
theorem dL_law_430 : decode cL_law 430 = .ok (.iadd, 1) := by decide +kernel
theorem dL_law_431 : decode cL_law 431 = .ok (.iaload, 1) := by decide +kernel
theorem dL_law_432 : decode cL_law 432 = .ok (.invokevirtual 52, 3) := by decide +kernel
theorem wd_1777 : (Jvm.Cond.selects "ParlourLeavesModel" ({ cls := "ParlourLeavesModel", name := "act", desc := "(II)I" } : Jvm.MethodName) ({ cls := "ParlourLeavesModel", name := "act", desc := "(II)I" } : Jvm.MethodName)) ∈ zTB := List.mem_filter.mpr ⟨List.mem_append_right _ (List.mem_append_right _ (List.mem_append_right _ (List.mem_append_right _ (List.mem_append_right _ (List.mem_append_right _ (List.mem_append_right _ (List.mem_append_right _ (List.mem_append_left _ (List.mem_of_getElem? (i := 97) rfl))))))))), rfl⟩
theorem wd_1775 : (Jvm.Cond.methodLink "ParlourLeavesLaw" (52 : Nat) ({ cls := "ParlourLeavesModel", name := "act", desc := "(II)I" } : Jvm.MethodName)) ∈ zTB := List.mem_filter.mpr ⟨List.mem_append_right _ (List.mem_append_right _ (List.mem_append_right _ (List.mem_append_right _ (List.mem_append_right _ (List.mem_append_right _ (List.mem_append_right _ (List.mem_append_right _ (List.mem_append_left _ (List.mem_of_getElem? (i := 95) rfl))))))))), rfl⟩
theorem wd_1776 : (Jvm.Cond.instanceMethod ({ cls := "ParlourLeavesModel", name := "act", desc := "(II)I" } : Jvm.MethodName)) ∈ zTB := List.mem_filter.mpr ⟨List.mem_append_right _ (List.mem_append_right _ (List.mem_append_right _ (List.mem_append_right _ (List.mem_append_right _ (List.mem_append_right _ (List.mem_append_right _ (List.mem_append_right _ (List.mem_append_left _ (List.mem_of_getElem? (i := 96) rfl))))))))), rfl⟩
theorem wd_1778 : (Jvm.Cond.code ({ cls := "ParlourLeavesModel", name := "act", desc := "(II)I" } : Jvm.MethodName) prog_14_method_57_code (3 : Nat) (Option.some Jvm.ClassFile.FieldType.int)) ∈ zTB := List.mem_filter.mpr ⟨List.mem_append_right _ (List.mem_append_right _ (List.mem_append_right _ (List.mem_append_right _ (List.mem_append_right _ (List.mem_append_right _ (List.mem_append_right _ (List.mem_append_right _ (List.mem_append_left _ (List.mem_of_getElem? (i := 98) rfl))))))))), rfl⟩
theorem cv_L_52 : zCV RL RX12 52 yX12_act cX12_act 3 (some .int) 2 := ⟨rfl, ⟨by decide, by decide, by decide +kernel⟩, wd_1775, wd_1776, wd_1777, wd_19, wd_1778⟩
theorem dL_law_435 : decode cL_law 435 = .ok (.istore 6, 2) := by decide +kernel
theorem dL_law_437 : decode cL_law 437 = .ok (.aload_n 2, 1) := by decide +kernel
theorem dL_law_438 : decode cL_law 438 = .ok (.invokevirtual 47, 3) := by decide +kernel
theorem dL_law_441 : decode cL_law 441 = .ok (.iload 5, 2) := by decide +kernel
theorem dL_law_443 : decode cL_law 443 = .ok (.if_icmp .eq 5, 3) := by decide +kernel
theorem dL_law_448 : decode cL_law 448 = .ok (.iload 5, 2) := by decide +kernel
theorem dL_law_450 : decode cL_law 450 = .ok (.ifCond .ne 15, 3) := by decide +kernel
theorem dL_law_465 : decode cL_law 465 = .ok (.goto 803, 3) := by decide +kernel
theorem dL_law_453 : decode cL_law 453 = .ok (.aload_n 3, 1) := by decide +kernel
theorem dL_law_454 : decode cL_law 454 = .ok (.iconst 0, 1) := by decide +kernel
theorem dL_law_455 : decode cL_law 455 = .ok (.laload, 1) := by decide +kernel
theorem dL_law_456 : decode cL_law 456 = .ok (.iload 6, 2) := by decide +kernel
theorem dL_law_458 : decode cL_law 458 = .ok (.i2l, 1) := by decide +kernel
theorem dL_law_459 : decode cL_law 459 = .ok (.lcmp, 1) := by decide +kernel
theorem dL_law_460 : decode cL_law 460 = .ok (.ifCond .eq 5, 3) := by decide +kernel
set_option maxHeartbeats 1000000 in
set_option maxRecDepth 100000 in
theorem law_5 {p : Program} {l : Launch} {e : Env} {s : State} {m : MethodId} {below : List Frame} {meth : Method} {c : Code} {D : va_G} {cy : Nat → ClassId} {kK kV q qm : Nat → Nat} {o b L i cells slots : Nat} {xs : Nat → Int32} {Q : State → Prop} (cx : zX RL cL_law 7 p s m #[Value.ref b] c D cy) (hE : zEn kK kV (zAL s) s) (hX : va_X b L xs s s.heap) (hbl : b < s.heap.size) (hL : L ≤ 3072) (hi : i + 6 ≤ L) (hcl : cells + 2 ≤ 601024) (hsl : slots + 68 ≤ 7293034) (hl0 : l.stackTraces = false)
    (KC : ∀ (H : Heap) (locs : List Loc) (ls : Array Slot) (c1 s1 : Nat), zIv D cy s q qm o H locs → lv_has ls 7 [(4, .int (nI i)), (0, .ref b), (1, .ref (q 0)), (2, .ref (qm 0)), (3, .ref o)] → c1 ≤ cells + 2 → s1 ≤ slots + 68 → W p l e room_1 s m #[Value.ref b] below meth c H locs c1 s1 Q (F0 m 1268 ls []))
    {H : Heap} {locs : List Loc} {ls : Array Slot} (hv : zIv D cy s q qm o H locs) (hl : lv_has ls 7 [(4, .int (nI i)), (0, .ref b), (1, .ref (q 0)), (2, .ref (qm 0)), (3, .ref o)]) : W p l e room_1 s m #[Value.ref b] below meth c H locs cells slots Q (F0 m 400 ls []) := by
  have hx := cx.1
  have hb := cx.2.1
  have hbA : ¬ zAL s b := Nat.not_le.mpr hbl
  have hRc : zRc cells slots room_1 := ⟨by show cells + 0 ≤ 601024; omega, by show slots + 0 ≤ 7293034; omega⟩
  have in1 : vp_in (nI i + (1 : Int32)) L := zl_in (j := 1) hi hL (by decide)
  have in2 : vp_in (nI i + (2 : Int32)) L := zl_in (j := 2) hi hL (by decide)
  obtain ⟨S, T, tx, u, f, r, hu, hse, hw, hS⟩ := hv
  obtain ⟨x, z, T', h1, h2, r2, hx9⟩ := ov_act r (xs (nI i + (1 : Int32)).toNatClampNeg) (xs (nI i + (2 : Int32)).toNatClampNeg)
  have hsub : ∀ a, (a = o ∨ H.size ≤ a) → zAL s a := by
    rintro a (rfl | h)
    · exact hse.2.2.2.2.2.2.1
    · exact Nat.le_trans hS.1 h
  refine lv_aload_n (pc := 400) hx hb dL_law_400 rfl (lv_at hl 2 rfl) ?_
  refine lv_aload_n (pc := 401) hx hb dL_law_401 rfl (lv_at hl 1 rfl) ?_
  refine lv_iload (pc := 402) hx hb dL_law_402 (lv_at hl 0 rfl) ?_
  refine lv_iconst (pc := 404) hx hb dL_law_404 zc_1 ?_
  refine lv_iadd (pc := 405) hx hb dL_law_405 ?_
  refine va_sld (pc := 406) hx hb hX hbl hbA hS in1 dL_law_406 ?_
  refine lv_aload_n (pc := 407) hx hb dL_law_407 rfl (lv_at hl 1 rfl) ?_
  refine lv_iload (pc := 408) hx hb dL_law_408 (lv_at hl 0 rfl) ?_
  refine lv_iconst (pc := 410) hx hb dL_law_410 zc_2 ?_
  refine lv_iadd (pc := 411) hx hb dL_law_411 ?_
  refine va_sld (pc := 412) hx hb hX hbl hbA hS in2 dL_law_412 ?_
  refine lv_aload_n (pc := 413) hx hb dL_law_413 rfl (lv_at hl 4 rfl) ?_
  refine va_calli (A0 := zAL s) (zr_runSW (As := [.ref (q 0), .int (xs (nI i + (1 : Int32)).toNatClampNeg), .int (xs (nI i + (2 : Int32)).toNatClampNeg), .ref o]) (rest := []) cx ⟨by decide, by decide, by show _ = some 4; decide +kernel⟩ wd_1446 wd_1447 wd_0 wd_1448 (mL_act (A := (fun a => a = o ∨ H.size ≤ a)) (f := f) (kK := kK) (kV := kV) hl0 h1 (Or.inl rfl)) rfl rfl ⟨Nat.le_of_ble_eq_true rfl, Nat.le_of_ble_eq_true rfl⟩ (zr_preS (fun a U g mk h => ⟨h.1, h.2.1, zPr_bl a U g mk h.2.2.1, zEn_bl a U g mk h.2.2.2⟩) (fun U hU hW => ⟨fun q9 h9 => Or.inr (by rw [hU] at h9; exact h9), by rw [hU]; exact hw.2.2.2, zr_pre cx hw.1 U hU hW, (hE.at hS.2.1 hU hW).narrow hsub⟩)) rfl rfl hl.1 rfl (lv_room (Nat.le_of_ble_eq_true rfl)) dL_law_414 ⟨by show cells + 1 ≤ 601024; omega, by show slots + 6 ≤ 7293034; omega⟩) hS (fun a _ h => hsub a h) hsub (fun rr f2 t H1 locs ht _ hpost hB hz hk hS => ?_)
  subst ht
  have hw := hw.setO hse hB hk
  have hRc : zRc (cells + 1) (slots + 6) room_1 := ⟨by show cells + 1 + 0 ≤ 601024; omega, by show slots + 6 + 0 ≤ 7293034; omega⟩
  refine lv_istore (lv' := [(5, .int rr), (4, .int (nI i)), (0, .ref b), (1, .ref (q 0)), (2, .ref (qm 0)), (3, .ref o)]) (pc := 417) hx hb dL_law_417 hl (by decide) rfl (fun ls hl => ?_)
  refine lv_aload_n (pc := 419) hx hb dL_law_419 rfl (lv_at hl 4 rfl) ?_
  refine lv_aload_n (pc := 420) hx hb dL_law_420 rfl (lv_at hl 2 rfl) ?_
  refine lv_iload (pc := 421) hx hb dL_law_421 (lv_at hl 1 rfl) ?_
  refine lv_iconst (pc := 423) hx hb dL_law_423 zc_1 ?_
  refine lv_iadd (pc := 424) hx hb dL_law_424 ?_
  refine va_sld (pc := 425) hx hb hX hbl hbA hS in1 dL_law_425 ?_
  refine lv_aload_n (pc := 426) hx hb dL_law_426 rfl (lv_at hl 2 rfl) ?_
  refine lv_iload (pc := 427) hx hb dL_law_427 (lv_at hl 1 rfl) ?_
  refine lv_iconst (pc := 429) hx hb dL_law_429 zc_2 ?_
  refine lv_iadd (pc := 430) hx hb dL_law_430 ?_
  refine va_sld (pc := 431) hx hb hX hbl hbA hS in2 dL_law_431 ?_
  refine zl_M (pc := 432) (As := [.int (xs (nI i + (1 : Int32)).toNatClampNeg), .int (xs (nI i + (2 : Int32)).toNatClampNeg)]) (rest := []) cx cv_L_52 hse (mX12_act hse.qM h2) ⟨⟨rfl, rfl⟩, Nat.le_of_ble_eq_true rfl, Nat.le_of_ble_eq_true rfl⟩ hRc hS hw hl.1 rfl rfl (Nat.le_of_ble_eq_true rfl) dL_law_432 (fun H locs hS hw => ?_)
  refine lv_istore (lv' := [(6, .int z), (5, .int rr), (4, .int (nI i)), (0, .ref b), (1, .ref (q 0)), (2, .ref (qm 0)), (3, .ref o)]) (pc := 435) hx hb dL_law_435 hl (by decide) rfl (fun ls hl => ?_)
  refine lv_aload_n (pc := 437) hx hb dL_law_437 rfl (lv_at hl 5 rfl) ?_
  refine zr_VI (pc := 438) (As := []) (rest := []) cx cv_L_47 (mX12_thrown (z := T'.1 0 0) rfl) ⟨⟨rfl, rfl⟩, Nat.le_of_ble_eq_true rfl, Nat.le_of_ble_eq_true rfl⟩ hRc hw.2.2.1 nM_0 sM_0 rfl hl.1 rfl rfl (Nat.le_of_ble_eq_true rfl) dL_law_438 ?_
  refine lv_iload (pc := 441) hx hb dL_law_441 (lv_at hl 1 rfl) ?_
  have hsame : T'.1 0 0 = rr := by
    rcases hx9 with ⟨e1, e2⟩ | ⟨e1, e2⟩ <;> rcases hpost with ⟨z9, e3, e4, -⟩ | ⟨e3, e4⟩ <;> first | (rw [e1] at e3; cases e3; done) | rw [e2, e4]
  refine lv_icmp_eq (pc := 443) (tgt := 448) hx hb dL_law_443 (by decide) (fun _ => ?_) (fun c0 => absurd hsame c0)
  refine lv_iload (pc := 448) hx hb dL_law_448 (lv_at hl 1 rfl) ?_
  refine lv_if_ne (pc := 450) (tgt := 465) hx hb dL_law_450 (by decide) (fun c1 => ?_) (fun c1 => ?_)
  · refine lv_goto (pc := 465) (tgt := 1268) hx hb dL_law_465 (by decide) ?_
    exact KC _ _ ls _ _ ⟨S, T', tx, u, f2, r2, hu, hse, hw, hS⟩ (lv_sub hl [2, 3, 4, 5, 6] rfl) (by omega) (by omega)
  · have hz9 : f2 0 = z.toInt64 := by
      rcases hx9 with ⟨e1, e2⟩ | ⟨e1, e2⟩ <;> rcases hpost with ⟨z9, e3, e4, e5⟩ | ⟨e3, e4⟩
      · rw [e1] at e3; cases e3; exact e5
      · rw [e1] at e3; cases e3
      · rw [e1] at e3; cases e3
      · rw [e4] at c1; exact absurd c1 (by decide)
    refine lv_aload_n (pc := 453) hx hb dL_law_453 rfl (lv_at hl 6 rfl) ?_
    refine lv_iconst (pc := 454) hx hb dL_law_454 zc_0 ?_
    refine va_lald (pc := 455) hx hb cx.2.2.2.2.2.1 hw.2.2.2 0 1 rfl rfl (show vp_in (0 : Int32) 1 from zIx_in (show zIx 0 1 = true by decide)) dL_law_455 ?_
    refine lv_iload (pc := 456) hx hb dL_law_456 (lv_at hl 0 rfl) ?_
    refine lv_i2l (v := z.toInt64) (pc := 458) hx hb dL_law_458 rfl ?_
    refine W.lcmp (pc := 459) hx hb dL_law_459 ?_
    refine lv_if_eq (pc := 460) (tgt := 465) hx hb dL_law_460 (by decide) (fun _ => ?_) (fun c2 => absurd (by show lg_cmp (f2 0) z.toInt64 = 0; rw [hz9]; exact zcmp_self _) c2)
    refine lv_goto (pc := 465) (tgt := 1268) hx hb dL_law_465 (by decide) ?_
    exact KC _ _ ls _ _ ⟨S, T', tx, u, f2, r2, hu, hse, hw, hS⟩ (lv_sub hl [2, 3, 4, 5, 6] rfl) (by omega) (by omega)
theorem dL_law_468 : decode cL_law 468 = .ok (.aload_n 1, 1) := by decide +kernel
theorem dL_law_469 : decode cL_law 469 = .ok (.aload_n 0, 1) := by decide +kernel
theorem dL_law_470 : decode cL_law 470 = .ok (.iload 4, 2) := by decide +kernel
theorem dL_law_472 : decode cL_law 472 = .ok (.iconst 1, 1) := by decide +kernel
theorem dL_law_473 : decode cL_law 473 = .ok (.iadd, 1) := by decide +kernel
theorem dL_law_474 : decode cL_law 474 = .ok (.iaload, 1) := by decide +kernel
theorem dL_law_475 : decode cL_law 475 = .ok (.aload_n 0, 1) := by decide +kernel
theorem dL_law_476 : decode cL_law 476 = .ok (.iload 4, 2) := by decide +kernel
theorem dL_law_478 : decode cL_law 478 = .ok (.iconst 2, 1) := by decide +kernel
theorem dL_law_479 : decode cL_law 479 = .ok (.iadd, 1) := by decide +kernel
theorem dL_law_480 : decode cL_law 480 = .ok (.iaload, 1) := by decide +kernel
theorem dL_law_481 : decode cL_law 481 = .ok (.invokevirtual 53, 3) := by decide +kernel
theorem wd_697 : (Jvm.Cond.selects "ParlourLeaves" ({ cls := "ParlourLeaves", name := "comes", desc := "(II)I" } : Jvm.MethodName) ({ cls := "ParlourLeaves", name := "comes", desc := "(II)I" } : Jvm.MethodName)) ∈ zTB := List.mem_filter.mpr ⟨List.mem_append_right _ (List.mem_append_right _ (List.mem_append_right _ (List.mem_append_left _ (List.mem_of_getElem? (i := 217) rfl)))), rfl⟩
theorem wd_695 : (Jvm.Cond.methodLink "ParlourLeavesLaw" (53 : Nat) ({ cls := "ParlourLeaves", name := "comes", desc := "(II)I" } : Jvm.MethodName)) ∈ zTB := List.mem_filter.mpr ⟨List.mem_append_right _ (List.mem_append_right _ (List.mem_append_right _ (List.mem_append_left _ (List.mem_of_getElem? (i := 215) rfl)))), rfl⟩
theorem wd_696 : (Jvm.Cond.instanceMethod ({ cls := "ParlourLeaves", name := "comes", desc := "(II)I" } : Jvm.MethodName)) ∈ zTB := List.mem_filter.mpr ⟨List.mem_append_right _ (List.mem_append_right _ (List.mem_append_right _ (List.mem_append_left _ (List.mem_of_getElem? (i := 216) rfl)))), rfl⟩
theorem wd_698 : (Jvm.Cond.code ({ cls := "ParlourLeaves", name := "comes", desc := "(II)I" } : Jvm.MethodName) prog_1_method_8_code (3 : Nat) (Option.some Jvm.ClassFile.FieldType.int)) ∈ zTB := List.mem_filter.mpr ⟨List.mem_append_right _ (List.mem_append_right _ (List.mem_append_right _ (List.mem_append_left _ (List.mem_of_getElem? (i := 218) rfl)))), rfl⟩
theorem cv_L_53 : zCV RL RX11 53 yX11_comes cX11_comes 3 (some .int) 2 := ⟨rfl, ⟨by decide, by decide, by decide +kernel⟩, wd_695, wd_696, wd_697, wd_1, wd_698⟩
theorem dL_law_484 : decode cL_law 484 = .ok (.aload_n 2, 1) := by decide +kernel
theorem dL_law_485 : decode cL_law 485 = .ok (.aload_n 0, 1) := by decide +kernel
theorem dL_law_486 : decode cL_law 486 = .ok (.iload 4, 2) := by decide +kernel
theorem dL_law_488 : decode cL_law 488 = .ok (.iconst 1, 1) := by decide +kernel
theorem dL_law_489 : decode cL_law 489 = .ok (.iadd, 1) := by decide +kernel
theorem dL_law_490 : decode cL_law 490 = .ok (.iaload, 1) := by decide +kernel
theorem dL_law_491 : decode cL_law 491 = .ok (.aload_n 0, 1) := by decide +kernel
theorem dL_law_492 : decode cL_law 492 = .ok (.iload 4, 2) := by decide +kernel
theorem dL_law_494 : decode cL_law 494 = .ok (.iconst 2, 1) := by decide +kernel
theorem dL_law_495 : decode cL_law 495 = .ok (.iadd, 1) := by decide +kernel
theorem dL_law_496 : decode cL_law 496 = .ok (.iaload, 1) := by decide +kernel
theorem dL_law_497 : decode cL_law 497 = .ok (.invokevirtual 56, 3) := by decide +kernel
theorem wd_1793 : (Jvm.Cond.selects "ParlourLeavesModel" ({ cls := "ParlourLeavesModel", name := "comes", desc := "(II)I" } : Jvm.MethodName) ({ cls := "ParlourLeavesModel", name := "comes", desc := "(II)I" } : Jvm.MethodName)) ∈ zTB := List.mem_filter.mpr ⟨List.mem_append_right _ (List.mem_append_right _ (List.mem_append_right _ (List.mem_append_right _ (List.mem_append_right _ (List.mem_append_right _ (List.mem_append_right _ (List.mem_append_right _ (List.mem_append_left _ (List.mem_of_getElem? (i := 113) rfl))))))))), rfl⟩
theorem wd_1791 : (Jvm.Cond.methodLink "ParlourLeavesLaw" (56 : Nat) ({ cls := "ParlourLeavesModel", name := "comes", desc := "(II)I" } : Jvm.MethodName)) ∈ zTB := List.mem_filter.mpr ⟨List.mem_append_right _ (List.mem_append_right _ (List.mem_append_right _ (List.mem_append_right _ (List.mem_append_right _ (List.mem_append_right _ (List.mem_append_right _ (List.mem_append_right _ (List.mem_append_left _ (List.mem_of_getElem? (i := 111) rfl))))))))), rfl⟩
theorem wd_1792 : (Jvm.Cond.instanceMethod ({ cls := "ParlourLeavesModel", name := "comes", desc := "(II)I" } : Jvm.MethodName)) ∈ zTB := List.mem_filter.mpr ⟨List.mem_append_right _ (List.mem_append_right _ (List.mem_append_right _ (List.mem_append_right _ (List.mem_append_right _ (List.mem_append_right _ (List.mem_append_right _ (List.mem_append_right _ (List.mem_append_left _ (List.mem_of_getElem? (i := 112) rfl))))))))), rfl⟩
theorem wd_1794 : (Jvm.Cond.code ({ cls := "ParlourLeavesModel", name := "comes", desc := "(II)I" } : Jvm.MethodName) prog_14_method_58_code (3 : Nat) (Option.some Jvm.ClassFile.FieldType.int)) ∈ zTB := List.mem_filter.mpr ⟨List.mem_append_right _ (List.mem_append_right _ (List.mem_append_right _ (List.mem_append_right _ (List.mem_append_right _ (List.mem_append_right _ (List.mem_append_right _ (List.mem_append_right _ (List.mem_append_left _ (List.mem_of_getElem? (i := 114) rfl))))))))), rfl⟩
theorem cv_L_56 : zCV RL RX12 56 yX12_comes cX12_comes 3 (some .int) 2 := ⟨rfl, ⟨by decide, by decide, by decide +kernel⟩, wd_1791, wd_1792, wd_1793, wd_19, wd_1794⟩
theorem dL_law_500 : decode cL_law 500 = .ok (.if_icmp .eq 768, 3) := by decide +kernel
set_option maxHeartbeats 1000000 in
set_option maxRecDepth 100000 in
theorem law_6 {p : Program} {l : Launch} {e : Env} {s : State} {m : MethodId} {below : List Frame} {meth : Method} {c : Code} {D : va_G} {cy : Nat → ClassId} {kK kV q qm : Nat → Nat} {o b L i cells slots : Nat} {xs : Nat → Int32} {Q : State → Prop} (cx : zX RL cL_law 7 p s m #[Value.ref b] c D cy) (hE : zEn kK kV (zAL s) s) (hX : va_X b L xs s s.heap) (hbl : b < s.heap.size) (hL : L ≤ 3072) (hi : i + 6 ≤ L) (hcl : cells + 2 ≤ 601024) (hsl : slots + 68 ≤ 7293034) (hl0 : l.stackTraces = false)
    (KC : ∀ (H : Heap) (locs : List Loc) (ls : Array Slot) (c1 s1 : Nat), zIv D cy s q qm o H locs → lv_has ls 7 [(4, .int (nI i)), (0, .ref b), (1, .ref (q 0)), (2, .ref (qm 0)), (3, .ref o)] → c1 ≤ cells + 2 → s1 ≤ slots + 68 → W p l e room_1 s m #[Value.ref b] below meth c H locs c1 s1 Q (F0 m 1268 ls []))
    {H : Heap} {locs : List Loc} {ls : Array Slot} (hv : zIv D cy s q qm o H locs) (hl : lv_has ls 7 [(4, .int (nI i)), (0, .ref b), (1, .ref (q 0)), (2, .ref (qm 0)), (3, .ref o)]) : W p l e room_1 s m #[Value.ref b] below meth c H locs cells slots Q (F0 m 468 ls []) := by
  have hx := cx.1
  have hb := cx.2.1
  have hbA : ¬ zAL s b := Nat.not_le.mpr hbl
  have hRc : zRc cells slots room_1 := ⟨by show cells + 0 ≤ 601024; omega, by show slots + 0 ≤ 7293034; omega⟩
  have in1 : vp_in (nI i + (1 : Int32)) L := zl_in (j := 1) hi hL (by decide)
  have in2 : vp_in (nI i + (2 : Int32)) L := zl_in (j := 2) hi hL (by decide)
  obtain ⟨S, T, tx, u, f, r, hu, hse, hw, hS⟩ := hv
  obtain ⟨z, T', h1, h2, r2⟩ := ov_comes r (xs (nI i + (1 : Int32)).toNatClampNeg) (xs (nI i + (2 : Int32)).toNatClampNeg)
  refine lv_aload_n (pc := 468) hx hb dL_law_468 rfl (lv_at hl 2 rfl) ?_
  refine lv_aload_n (pc := 469) hx hb dL_law_469 rfl (lv_at hl 1 rfl) ?_
  refine lv_iload (pc := 470) hx hb dL_law_470 (lv_at hl 0 rfl) ?_
  refine lv_iconst (pc := 472) hx hb dL_law_472 zc_1 ?_
  refine lv_iadd (pc := 473) hx hb dL_law_473 ?_
  refine va_sld (pc := 474) hx hb hX hbl hbA hS in1 dL_law_474 ?_
  refine lv_aload_n (pc := 475) hx hb dL_law_475 rfl (lv_at hl 1 rfl) ?_
  refine lv_iload (pc := 476) hx hb dL_law_476 (lv_at hl 0 rfl) ?_
  refine lv_iconst (pc := 478) hx hb dL_law_478 zc_2 ?_
  refine lv_iadd (pc := 479) hx hb dL_law_479 ?_
  refine va_sld (pc := 480) hx hb hX hbl hbA hS in2 dL_law_480 ?_
  refine zr_VI (pc := 481) (As := [.int (xs (nI i + (1 : Int32)).toNatClampNeg), .int (xs (nI i + (2 : Int32)).toNatClampNeg)]) (rest := []) cx cv_L_53 (mX11_comes h1) ⟨⟨rfl, rfl⟩, Nat.le_of_ble_eq_true rfl, Nat.le_of_ble_eq_true rfl⟩ hRc hw.1 nC_0 sC_0 rfl hl.1 rfl rfl (Nat.le_of_ble_eq_true rfl) dL_law_481 ?_
  refine lv_aload_n (pc := 484) hx hb dL_law_484 rfl (lv_at hl 3 rfl) ?_
  refine lv_aload_n (pc := 485) hx hb dL_law_485 rfl (lv_at hl 1 rfl) ?_
  refine lv_iload (pc := 486) hx hb dL_law_486 (lv_at hl 0 rfl) ?_
  refine lv_iconst (pc := 488) hx hb dL_law_488 zc_1 ?_
  refine lv_iadd (pc := 489) hx hb dL_law_489 ?_
  refine va_sld (pc := 490) hx hb hX hbl hbA hS in1 dL_law_490 ?_
  refine lv_aload_n (pc := 491) hx hb dL_law_491 rfl (lv_at hl 1 rfl) ?_
  refine lv_iload (pc := 492) hx hb dL_law_492 (lv_at hl 0 rfl) ?_
  refine lv_iconst (pc := 494) hx hb dL_law_494 zc_2 ?_
  refine lv_iadd (pc := 495) hx hb dL_law_495 ?_
  refine va_sld (pc := 496) hx hb hX hbl hbA hS in2 dL_law_496 ?_
  refine zl_M (pc := 497) (As := [.int (xs (nI i + (1 : Int32)).toNatClampNeg), .int (xs (nI i + (2 : Int32)).toNatClampNeg)]) (rest := [.int z]) cx cv_L_56 hse (mX12_comes hse.qM h2) ⟨⟨rfl, rfl⟩, Nat.le_of_ble_eq_true rfl, Nat.le_of_ble_eq_true rfl⟩ hRc hS hw hl.1 rfl rfl (Nat.le_of_ble_eq_true rfl) dL_law_497 (fun H locs hS hw => ?_)
  refine lv_icmp_eq (pc := 500) (tgt := 1268) hx hb dL_law_500 (by decide) (fun _ => ?_) (fun c0 => absurd rfl c0)
  exact KC _ _ ls _ _ ⟨S, T', tx, u, f, r2, hu, hse, hw, hS⟩ hl (by omega) (by omega)
theorem dL_law_505 : decode cL_law 505 = .ok (.aload_n 1, 1) := by decide +kernel
theorem dL_law_506 : decode cL_law 506 = .ok (.aload_n 0, 1) := by decide +kernel
theorem dL_law_507 : decode cL_law 507 = .ok (.iload 4, 2) := by decide +kernel
theorem dL_law_509 : decode cL_law 509 = .ok (.iconst 1, 1) := by decide +kernel
theorem dL_law_510 : decode cL_law 510 = .ok (.iadd, 1) := by decide +kernel
theorem dL_law_511 : decode cL_law 511 = .ok (.iaload, 1) := by decide +kernel
theorem dL_law_512 : decode cL_law 512 = .ok (.invokevirtual 57, 3) := by decide +kernel
theorem wd_709 : (Jvm.Cond.selects "ParlourLeaves" ({ cls := "ParlourLeaves", name := "sights", desc := "(I)I" } : Jvm.MethodName) ({ cls := "ParlourLeaves", name := "sights", desc := "(I)I" } : Jvm.MethodName)) ∈ zTB := List.mem_filter.mpr ⟨List.mem_append_right _ (List.mem_append_right _ (List.mem_append_right _ (List.mem_append_left _ (List.mem_of_getElem? (i := 229) rfl)))), rfl⟩
theorem wd_707 : (Jvm.Cond.methodLink "ParlourLeavesLaw" (57 : Nat) ({ cls := "ParlourLeaves", name := "sights", desc := "(I)I" } : Jvm.MethodName)) ∈ zTB := List.mem_filter.mpr ⟨List.mem_append_right _ (List.mem_append_right _ (List.mem_append_right _ (List.mem_append_left _ (List.mem_of_getElem? (i := 227) rfl)))), rfl⟩
theorem wd_708 : (Jvm.Cond.instanceMethod ({ cls := "ParlourLeaves", name := "sights", desc := "(I)I" } : Jvm.MethodName)) ∈ zTB := List.mem_filter.mpr ⟨List.mem_append_right _ (List.mem_append_right _ (List.mem_append_right _ (List.mem_append_left _ (List.mem_of_getElem? (i := 228) rfl)))), rfl⟩
theorem wd_710 : (Jvm.Cond.code ({ cls := "ParlourLeaves", name := "sights", desc := "(I)I" } : Jvm.MethodName) prog_1_method_9_code (2 : Nat) (Option.some Jvm.ClassFile.FieldType.int)) ∈ zTB := List.mem_filter.mpr ⟨List.mem_append_right _ (List.mem_append_right _ (List.mem_append_right _ (List.mem_append_left _ (List.mem_of_getElem? (i := 230) rfl)))), rfl⟩
theorem cv_L_57 : zCV RL RX11 57 yX11_sights cX11_sights 2 (some .int) 1 := ⟨rfl, ⟨by decide, by decide, by decide +kernel⟩, wd_707, wd_708, wd_709, wd_1, wd_710⟩
theorem dL_law_515 : decode cL_law 515 = .ok (.aload_n 2, 1) := by decide +kernel
theorem dL_law_516 : decode cL_law 516 = .ok (.aload_n 0, 1) := by decide +kernel
theorem dL_law_517 : decode cL_law 517 = .ok (.iload 4, 2) := by decide +kernel
theorem dL_law_519 : decode cL_law 519 = .ok (.iconst 1, 1) := by decide +kernel
theorem dL_law_520 : decode cL_law 520 = .ok (.iadd, 1) := by decide +kernel
theorem dL_law_521 : decode cL_law 521 = .ok (.iaload, 1) := by decide +kernel
theorem dL_law_522 : decode cL_law 522 = .ok (.invokevirtual 61, 3) := by decide +kernel
theorem wd_1797 : (Jvm.Cond.selects "ParlourLeavesModel" ({ cls := "ParlourLeavesModel", name := "sights", desc := "(I)I" } : Jvm.MethodName) ({ cls := "ParlourLeavesModel", name := "sights", desc := "(I)I" } : Jvm.MethodName)) ∈ zTB := List.mem_filter.mpr ⟨List.mem_append_right _ (List.mem_append_right _ (List.mem_append_right _ (List.mem_append_right _ (List.mem_append_right _ (List.mem_append_right _ (List.mem_append_right _ (List.mem_append_right _ (List.mem_append_left _ (List.mem_of_getElem? (i := 117) rfl))))))))), rfl⟩
theorem wd_1795 : (Jvm.Cond.methodLink "ParlourLeavesLaw" (61 : Nat) ({ cls := "ParlourLeavesModel", name := "sights", desc := "(I)I" } : Jvm.MethodName)) ∈ zTB := List.mem_filter.mpr ⟨List.mem_append_right _ (List.mem_append_right _ (List.mem_append_right _ (List.mem_append_right _ (List.mem_append_right _ (List.mem_append_right _ (List.mem_append_right _ (List.mem_append_right _ (List.mem_append_left _ (List.mem_of_getElem? (i := 115) rfl))))))))), rfl⟩
theorem wd_1796 : (Jvm.Cond.instanceMethod ({ cls := "ParlourLeavesModel", name := "sights", desc := "(I)I" } : Jvm.MethodName)) ∈ zTB := List.mem_filter.mpr ⟨List.mem_append_right _ (List.mem_append_right _ (List.mem_append_right _ (List.mem_append_right _ (List.mem_append_right _ (List.mem_append_right _ (List.mem_append_right _ (List.mem_append_right _ (List.mem_append_left _ (List.mem_of_getElem? (i := 116) rfl))))))))), rfl⟩
theorem wd_1798 : (Jvm.Cond.code ({ cls := "ParlourLeavesModel", name := "sights", desc := "(I)I" } : Jvm.MethodName) prog_14_method_59_code (2 : Nat) (Option.some Jvm.ClassFile.FieldType.int)) ∈ zTB := List.mem_filter.mpr ⟨List.mem_append_right _ (List.mem_append_right _ (List.mem_append_right _ (List.mem_append_right _ (List.mem_append_right _ (List.mem_append_right _ (List.mem_append_right _ (List.mem_append_right _ (List.mem_append_left _ (List.mem_of_getElem? (i := 118) rfl))))))))), rfl⟩
theorem cv_L_61 : zCV RL RX12 61 yX12_sights cX12_sights 2 (some .int) 1 := ⟨rfl, ⟨by decide, by decide, by decide +kernel⟩, wd_1795, wd_1796, wd_1797, wd_19, wd_1798⟩
theorem dL_law_525 : decode cL_law 525 = .ok (.if_icmp .eq 743, 3) := by decide +kernel
set_option maxHeartbeats 1000000 in
set_option maxRecDepth 100000 in
theorem law_7 {p : Program} {l : Launch} {e : Env} {s : State} {m : MethodId} {below : List Frame} {meth : Method} {c : Code} {D : va_G} {cy : Nat → ClassId} {kK kV q qm : Nat → Nat} {o b L i cells slots : Nat} {xs : Nat → Int32} {Q : State → Prop} (cx : zX RL cL_law 7 p s m #[Value.ref b] c D cy) (hE : zEn kK kV (zAL s) s) (hX : va_X b L xs s s.heap) (hbl : b < s.heap.size) (hL : L ≤ 3072) (hi : i + 6 ≤ L) (hcl : cells + 2 ≤ 601024) (hsl : slots + 68 ≤ 7293034) (hl0 : l.stackTraces = false)
    (KC : ∀ (H : Heap) (locs : List Loc) (ls : Array Slot) (c1 s1 : Nat), zIv D cy s q qm o H locs → lv_has ls 7 [(4, .int (nI i)), (0, .ref b), (1, .ref (q 0)), (2, .ref (qm 0)), (3, .ref o)] → c1 ≤ cells + 2 → s1 ≤ slots + 68 → W p l e room_1 s m #[Value.ref b] below meth c H locs c1 s1 Q (F0 m 1268 ls []))
    {H : Heap} {locs : List Loc} {ls : Array Slot} (hv : zIv D cy s q qm o H locs) (hl : lv_has ls 7 [(4, .int (nI i)), (0, .ref b), (1, .ref (q 0)), (2, .ref (qm 0)), (3, .ref o)]) : W p l e room_1 s m #[Value.ref b] below meth c H locs cells slots Q (F0 m 505 ls []) := by
  have hx := cx.1
  have hb := cx.2.1
  have hbA : ¬ zAL s b := Nat.not_le.mpr hbl
  have hRc : zRc cells slots room_1 := ⟨by show cells + 0 ≤ 601024; omega, by show slots + 0 ≤ 7293034; omega⟩
  have in1 : vp_in (nI i + (1 : Int32)) L := zl_in (j := 1) hi hL (by decide)
  obtain ⟨S, T, tx, u, f, r, hu, hse, hw, hS⟩ := hv
  obtain ⟨z, T', h1, h2, r2⟩ := ov_sights r (xs (nI i + (1 : Int32)).toNatClampNeg)
  refine lv_aload_n (pc := 505) hx hb dL_law_505 rfl (lv_at hl 2 rfl) ?_
  refine lv_aload_n (pc := 506) hx hb dL_law_506 rfl (lv_at hl 1 rfl) ?_
  refine lv_iload (pc := 507) hx hb dL_law_507 (lv_at hl 0 rfl) ?_
  refine lv_iconst (pc := 509) hx hb dL_law_509 zc_1 ?_
  refine lv_iadd (pc := 510) hx hb dL_law_510 ?_
  refine va_sld (pc := 511) hx hb hX hbl hbA hS in1 dL_law_511 ?_
  refine zr_VI (pc := 512) (As := [.int (xs (nI i + (1 : Int32)).toNatClampNeg)]) (rest := []) cx cv_L_57 (mX11_sights h1) ⟨⟨rfl, rfl⟩, Nat.le_of_ble_eq_true rfl, Nat.le_of_ble_eq_true rfl⟩ hRc hw.1 nC_0 sC_0 rfl hl.1 rfl rfl (Nat.le_of_ble_eq_true rfl) dL_law_512 ?_
  refine lv_aload_n (pc := 515) hx hb dL_law_515 rfl (lv_at hl 3 rfl) ?_
  refine lv_aload_n (pc := 516) hx hb dL_law_516 rfl (lv_at hl 1 rfl) ?_
  refine lv_iload (pc := 517) hx hb dL_law_517 (lv_at hl 0 rfl) ?_
  refine lv_iconst (pc := 519) hx hb dL_law_519 zc_1 ?_
  refine lv_iadd (pc := 520) hx hb dL_law_520 ?_
  refine va_sld (pc := 521) hx hb hX hbl hbA hS in1 dL_law_521 ?_
  refine zl_M (pc := 522) (As := [.int (xs (nI i + (1 : Int32)).toNatClampNeg)]) (rest := [.int z]) cx cv_L_61 hse (mX12_sights hse.qM h2) ⟨⟨rfl, rfl⟩, Nat.le_of_ble_eq_true rfl, Nat.le_of_ble_eq_true rfl⟩ hRc hS hw hl.1 rfl rfl (Nat.le_of_ble_eq_true rfl) dL_law_522 (fun H locs hS hw => ?_)
  refine lv_icmp_eq (pc := 525) (tgt := 1268) hx hb dL_law_525 (by decide) (fun _ => ?_) (fun c0 => absurd rfl c0)
  exact KC _ _ ls _ _ ⟨S, T', tx, u, f, r2, hu, hse, hw, hS⟩ hl (by omega) (by omega)
theorem dL_law_530 : decode cL_law 530 = .ok (.aload_n 1, 1) := by decide +kernel
theorem dL_law_531 : decode cL_law 531 = .ok (.aload_n 0, 1) := by decide +kernel
theorem dL_law_532 : decode cL_law 532 = .ok (.iload 4, 2) := by decide +kernel
theorem dL_law_534 : decode cL_law 534 = .ok (.iconst 1, 1) := by decide +kernel
theorem dL_law_535 : decode cL_law 535 = .ok (.iadd, 1) := by decide +kernel
theorem dL_law_536 : decode cL_law 536 = .ok (.iaload, 1) := by decide +kernel
theorem dL_law_537 : decode cL_law 537 = .ok (.invokevirtual 62, 3) := by decide +kernel
theorem wd_713 : (Jvm.Cond.selects "ParlourLeaves" ({ cls := "ParlourLeaves", name := "now", desc := "(I)I" } : Jvm.MethodName) ({ cls := "ParlourLeaves", name := "now", desc := "(I)I" } : Jvm.MethodName)) ∈ zTB := List.mem_filter.mpr ⟨List.mem_append_right _ (List.mem_append_right _ (List.mem_append_right _ (List.mem_append_left _ (List.mem_of_getElem? (i := 233) rfl)))), rfl⟩
theorem wd_711 : (Jvm.Cond.methodLink "ParlourLeavesLaw" (62 : Nat) ({ cls := "ParlourLeaves", name := "now", desc := "(I)I" } : Jvm.MethodName)) ∈ zTB := List.mem_filter.mpr ⟨List.mem_append_right _ (List.mem_append_right _ (List.mem_append_right _ (List.mem_append_left _ (List.mem_of_getElem? (i := 231) rfl)))), rfl⟩
theorem wd_712 : (Jvm.Cond.instanceMethod ({ cls := "ParlourLeaves", name := "now", desc := "(I)I" } : Jvm.MethodName)) ∈ zTB := List.mem_filter.mpr ⟨List.mem_append_right _ (List.mem_append_right _ (List.mem_append_right _ (List.mem_append_left _ (List.mem_of_getElem? (i := 232) rfl)))), rfl⟩
theorem wd_714 : (Jvm.Cond.code ({ cls := "ParlourLeaves", name := "now", desc := "(I)I" } : Jvm.MethodName) prog_1_method_10_code (2 : Nat) (Option.some Jvm.ClassFile.FieldType.int)) ∈ zTB := List.mem_filter.mpr ⟨List.mem_append_right _ (List.mem_append_right _ (List.mem_append_right _ (List.mem_append_left _ (List.mem_of_getElem? (i := 234) rfl)))), rfl⟩
theorem cv_L_62 : zCV RL RX11 62 yX11_now cX11_now 2 (some .int) 1 := ⟨rfl, ⟨by decide, by decide, by decide +kernel⟩, wd_711, wd_712, wd_713, wd_1, wd_714⟩
theorem dL_law_540 : decode cL_law 540 = .ok (.aload_n 2, 1) := by decide +kernel
theorem dL_law_541 : decode cL_law 541 = .ok (.aload_n 0, 1) := by decide +kernel
theorem dL_law_542 : decode cL_law 542 = .ok (.iload 4, 2) := by decide +kernel
theorem dL_law_544 : decode cL_law 544 = .ok (.iconst 1, 1) := by decide +kernel
theorem dL_law_545 : decode cL_law 545 = .ok (.iadd, 1) := by decide +kernel
theorem dL_law_546 : decode cL_law 546 = .ok (.iaload, 1) := by decide +kernel
theorem dL_law_547 : decode cL_law 547 = .ok (.invokevirtual 65, 3) := by decide +kernel
theorem wd_1805 : (Jvm.Cond.selects "ParlourLeavesModel" ({ cls := "ParlourLeavesModel", name := "now", desc := "(I)I" } : Jvm.MethodName) ({ cls := "ParlourLeavesModel", name := "now", desc := "(I)I" } : Jvm.MethodName)) ∈ zTB := List.mem_filter.mpr ⟨List.mem_append_right _ (List.mem_append_right _ (List.mem_append_right _ (List.mem_append_right _ (List.mem_append_right _ (List.mem_append_right _ (List.mem_append_right _ (List.mem_append_right _ (List.mem_append_left _ (List.mem_of_getElem? (i := 125) rfl))))))))), rfl⟩
theorem wd_1803 : (Jvm.Cond.methodLink "ParlourLeavesLaw" (65 : Nat) ({ cls := "ParlourLeavesModel", name := "now", desc := "(I)I" } : Jvm.MethodName)) ∈ zTB := List.mem_filter.mpr ⟨List.mem_append_right _ (List.mem_append_right _ (List.mem_append_right _ (List.mem_append_right _ (List.mem_append_right _ (List.mem_append_right _ (List.mem_append_right _ (List.mem_append_right _ (List.mem_append_left _ (List.mem_of_getElem? (i := 123) rfl))))))))), rfl⟩
theorem wd_1804 : (Jvm.Cond.instanceMethod ({ cls := "ParlourLeavesModel", name := "now", desc := "(I)I" } : Jvm.MethodName)) ∈ zTB := List.mem_filter.mpr ⟨List.mem_append_right _ (List.mem_append_right _ (List.mem_append_right _ (List.mem_append_right _ (List.mem_append_right _ (List.mem_append_right _ (List.mem_append_right _ (List.mem_append_right _ (List.mem_append_left _ (List.mem_of_getElem? (i := 124) rfl))))))))), rfl⟩
theorem wd_1806 : (Jvm.Cond.code ({ cls := "ParlourLeavesModel", name := "now", desc := "(I)I" } : Jvm.MethodName) prog_14_method_61_code (4 : Nat) (Option.some Jvm.ClassFile.FieldType.int)) ∈ zTB := List.mem_filter.mpr ⟨List.mem_append_right _ (List.mem_append_right _ (List.mem_append_right _ (List.mem_append_right _ (List.mem_append_right _ (List.mem_append_right _ (List.mem_append_right _ (List.mem_append_right _ (List.mem_append_left _ (List.mem_of_getElem? (i := 126) rfl))))))))), rfl⟩
theorem cv_L_65 : zCV RL RX12 65 yX12_now cX12_now 4 (some .int) 1 := ⟨rfl, ⟨by decide, by decide, by decide +kernel⟩, wd_1803, wd_1804, wd_1805, wd_19, wd_1806⟩
theorem dL_law_550 : decode cL_law 550 = .ok (.if_icmp .eq 718, 3) := by decide +kernel
set_option maxHeartbeats 1000000 in
set_option maxRecDepth 100000 in
theorem law_8 {p : Program} {l : Launch} {e : Env} {s : State} {m : MethodId} {below : List Frame} {meth : Method} {c : Code} {D : va_G} {cy : Nat → ClassId} {kK kV q qm : Nat → Nat} {o b L i cells slots : Nat} {xs : Nat → Int32} {Q : State → Prop} (cx : zX RL cL_law 7 p s m #[Value.ref b] c D cy) (hE : zEn kK kV (zAL s) s) (hX : va_X b L xs s s.heap) (hbl : b < s.heap.size) (hL : L ≤ 3072) (hi : i + 6 ≤ L) (hcl : cells + 2 ≤ 601024) (hsl : slots + 68 ≤ 7293034) (hl0 : l.stackTraces = false)
    (KC : ∀ (H : Heap) (locs : List Loc) (ls : Array Slot) (c1 s1 : Nat), zIv D cy s q qm o H locs → lv_has ls 7 [(4, .int (nI i)), (0, .ref b), (1, .ref (q 0)), (2, .ref (qm 0)), (3, .ref o)] → c1 ≤ cells + 2 → s1 ≤ slots + 68 → W p l e room_1 s m #[Value.ref b] below meth c H locs c1 s1 Q (F0 m 1268 ls []))
    {H : Heap} {locs : List Loc} {ls : Array Slot} (hv : zIv D cy s q qm o H locs) (hl : lv_has ls 7 [(4, .int (nI i)), (0, .ref b), (1, .ref (q 0)), (2, .ref (qm 0)), (3, .ref o)]) : W p l e room_1 s m #[Value.ref b] below meth c H locs cells slots Q (F0 m 530 ls []) := by
  have hx := cx.1
  have hb := cx.2.1
  have hbA : ¬ zAL s b := Nat.not_le.mpr hbl
  have hRc : zRc cells slots room_1 := ⟨by show cells + 0 ≤ 601024; omega, by show slots + 0 ≤ 7293034; omega⟩
  have in1 : vp_in (nI i + (1 : Int32)) L := zl_in (j := 1) hi hL (by decide)
  obtain ⟨S, T, tx, u, f, r, hu, hse, hw, hS⟩ := hv
  obtain ⟨z, T', h1, h2, r2⟩ := ov_now r (xs (nI i + (1 : Int32)).toNatClampNeg)
  refine lv_aload_n (pc := 530) hx hb dL_law_530 rfl (lv_at hl 2 rfl) ?_
  refine lv_aload_n (pc := 531) hx hb dL_law_531 rfl (lv_at hl 1 rfl) ?_
  refine lv_iload (pc := 532) hx hb dL_law_532 (lv_at hl 0 rfl) ?_
  refine lv_iconst (pc := 534) hx hb dL_law_534 zc_1 ?_
  refine lv_iadd (pc := 535) hx hb dL_law_535 ?_
  refine va_sld (pc := 536) hx hb hX hbl hbA hS in1 dL_law_536 ?_
  refine zr_VI (pc := 537) (As := [.int (xs (nI i + (1 : Int32)).toNatClampNeg)]) (rest := []) cx cv_L_62 (mX11_now h1) ⟨⟨rfl, rfl⟩, Nat.le_of_ble_eq_true rfl, Nat.le_of_ble_eq_true rfl⟩ hRc hw.1 nC_0 sC_0 rfl hl.1 rfl rfl (Nat.le_of_ble_eq_true rfl) dL_law_537 ?_
  refine lv_aload_n (pc := 540) hx hb dL_law_540 rfl (lv_at hl 3 rfl) ?_
  refine lv_aload_n (pc := 541) hx hb dL_law_541 rfl (lv_at hl 1 rfl) ?_
  refine lv_iload (pc := 542) hx hb dL_law_542 (lv_at hl 0 rfl) ?_
  refine lv_iconst (pc := 544) hx hb dL_law_544 zc_1 ?_
  refine lv_iadd (pc := 545) hx hb dL_law_545 ?_
  refine va_sld (pc := 546) hx hb hX hbl hbA hS in1 dL_law_546 ?_
  refine zl_M (pc := 547) (As := [.int (xs (nI i + (1 : Int32)).toNatClampNeg)]) (rest := [.int z]) cx cv_L_65 hse (mX12_now hse.qM h2) ⟨⟨rfl, rfl⟩, Nat.le_of_ble_eq_true rfl, Nat.le_of_ble_eq_true rfl⟩ hRc hS hw hl.1 rfl rfl (Nat.le_of_ble_eq_true rfl) dL_law_547 (fun H locs hS hw => ?_)
  refine lv_icmp_eq (pc := 550) (tgt := 1268) hx hb dL_law_550 (by decide) (fun _ => ?_) (fun c0 => absurd rfl c0)
  exact KC _ _ ls _ _ ⟨S, T', tx, u, f, r2, hu, hse, hw, hS⟩ hl (by omega) (by omega)
theorem dL_law_555 : decode cL_law 555 = .ok (.aload_n 1, 1) := by decide +kernel
theorem dL_law_556 : decode cL_law 556 = .ok (.aload_n 0, 1) := by decide +kernel
theorem dL_law_557 : decode cL_law 557 = .ok (.iload 4, 2) := by decide +kernel
theorem dL_law_559 : decode cL_law 559 = .ok (.iconst 1, 1) := by decide +kernel
theorem dL_law_560 : decode cL_law 560 = .ok (.iadd, 1) := by decide +kernel
theorem dL_law_561 : decode cL_law 561 = .ok (.iaload, 1) := by decide +kernel
theorem dL_law_562 : decode cL_law 562 = .ok (.aload_n 0, 1) := by decide +kernel
theorem dL_law_563 : decode cL_law 563 = .ok (.iload 4, 2) := by decide +kernel
theorem dL_law_565 : decode cL_law 565 = .ok (.iconst 2, 1) := by decide +kernel
theorem dL_law_566 : decode cL_law 566 = .ok (.iadd, 1) := by decide +kernel
theorem dL_law_567 : decode cL_law 567 = .ok (.iaload, 1) := by decide +kernel
theorem dL_law_568 : decode cL_law 568 = .ok (.aload_n 0, 1) := by decide +kernel
theorem dL_law_569 : decode cL_law 569 = .ok (.iload 4, 2) := by decide +kernel
theorem dL_law_571 : decode cL_law 571 = .ok (.iconst 3, 1) := by decide +kernel
theorem dL_law_572 : decode cL_law 572 = .ok (.iadd, 1) := by decide +kernel
theorem dL_law_573 : decode cL_law 573 = .ok (.iaload, 1) := by decide +kernel
theorem dL_law_574 : decode cL_law 574 = .ok (.invokevirtual 66, 3) := by decide +kernel
theorem wd_782 : (Jvm.Cond.selects "ParlourLeaves" ({ cls := "ParlourLeaves", name := "does", desc := "(III)I" } : Jvm.MethodName) ({ cls := "ParlourLeaves", name := "does", desc := "(III)I" } : Jvm.MethodName)) ∈ zTB := List.mem_filter.mpr ⟨List.mem_append_right _ (List.mem_append_right _ (List.mem_append_right _ (List.mem_append_right _ (List.mem_append_left _ (List.mem_of_getElem? (i := 62) rfl))))), rfl⟩
theorem wd_780 : (Jvm.Cond.methodLink "ParlourLeavesLaw" (66 : Nat) ({ cls := "ParlourLeaves", name := "does", desc := "(III)I" } : Jvm.MethodName)) ∈ zTB := List.mem_filter.mpr ⟨List.mem_append_right _ (List.mem_append_right _ (List.mem_append_right _ (List.mem_append_right _ (List.mem_append_left _ (List.mem_of_getElem? (i := 60) rfl))))), rfl⟩
theorem wd_781 : (Jvm.Cond.instanceMethod ({ cls := "ParlourLeaves", name := "does", desc := "(III)I" } : Jvm.MethodName)) ∈ zTB := List.mem_filter.mpr ⟨List.mem_append_right _ (List.mem_append_right _ (List.mem_append_right _ (List.mem_append_right _ (List.mem_append_left _ (List.mem_of_getElem? (i := 61) rfl))))), rfl⟩
theorem wd_783 : (Jvm.Cond.code ({ cls := "ParlourLeaves", name := "does", desc := "(III)I" } : Jvm.MethodName) prog_1_method_11_code (5 : Nat) (Option.some Jvm.ClassFile.FieldType.int)) ∈ zTB := List.mem_filter.mpr ⟨List.mem_append_right _ (List.mem_append_right _ (List.mem_append_right _ (List.mem_append_right _ (List.mem_append_left _ (List.mem_of_getElem? (i := 63) rfl))))), rfl⟩
theorem cv_L_66 : zCV RL RX11 66 yX11_does cX11_does 5 (some .int) 3 := ⟨rfl, ⟨by decide, by decide, by decide +kernel⟩, wd_780, wd_781, wd_782, wd_1, wd_783⟩
theorem dL_law_577 : decode cL_law 577 = .ok (.aload_n 2, 1) := by decide +kernel
theorem dL_law_578 : decode cL_law 578 = .ok (.aload_n 0, 1) := by decide +kernel
theorem dL_law_579 : decode cL_law 579 = .ok (.iload 4, 2) := by decide +kernel
theorem dL_law_581 : decode cL_law 581 = .ok (.iconst 1, 1) := by decide +kernel
theorem dL_law_582 : decode cL_law 582 = .ok (.iadd, 1) := by decide +kernel
theorem dL_law_583 : decode cL_law 583 = .ok (.iaload, 1) := by decide +kernel
theorem dL_law_584 : decode cL_law 584 = .ok (.aload_n 0, 1) := by decide +kernel
theorem dL_law_585 : decode cL_law 585 = .ok (.iload 4, 2) := by decide +kernel
theorem dL_law_587 : decode cL_law 587 = .ok (.iconst 2, 1) := by decide +kernel
theorem dL_law_588 : decode cL_law 588 = .ok (.iadd, 1) := by decide +kernel
theorem dL_law_589 : decode cL_law 589 = .ok (.iaload, 1) := by decide +kernel
theorem dL_law_590 : decode cL_law 590 = .ok (.aload_n 0, 1) := by decide +kernel
theorem dL_law_591 : decode cL_law 591 = .ok (.iload 4, 2) := by decide +kernel
theorem dL_law_593 : decode cL_law 593 = .ok (.iconst 3, 1) := by decide +kernel
theorem dL_law_594 : decode cL_law 594 = .ok (.iadd, 1) := by decide +kernel
theorem dL_law_595 : decode cL_law 595 = .ok (.iaload, 1) := by decide +kernel
theorem dL_law_596 : decode cL_law 596 = .ok (.invokevirtual 70, 3) := by decide +kernel
theorem wd_1817 : (Jvm.Cond.selects "ParlourLeavesModel" ({ cls := "ParlourLeavesModel", name := "does", desc := "(III)I" } : Jvm.MethodName) ({ cls := "ParlourLeavesModel", name := "does", desc := "(III)I" } : Jvm.MethodName)) ∈ zTB := List.mem_filter.mpr ⟨List.mem_append_right _ (List.mem_append_right _ (List.mem_append_right _ (List.mem_append_right _ (List.mem_append_right _ (List.mem_append_right _ (List.mem_append_right _ (List.mem_append_right _ (List.mem_append_left _ (List.mem_of_getElem? (i := 137) rfl))))))))), rfl⟩
theorem wd_1815 : (Jvm.Cond.methodLink "ParlourLeavesLaw" (70 : Nat) ({ cls := "ParlourLeavesModel", name := "does", desc := "(III)I" } : Jvm.MethodName)) ∈ zTB := List.mem_filter.mpr ⟨List.mem_append_right _ (List.mem_append_right _ (List.mem_append_right _ (List.mem_append_right _ (List.mem_append_right _ (List.mem_append_right _ (List.mem_append_right _ (List.mem_append_right _ (List.mem_append_left _ (List.mem_of_getElem? (i := 135) rfl))))))))), rfl⟩
theorem wd_1816 : (Jvm.Cond.instanceMethod ({ cls := "ParlourLeavesModel", name := "does", desc := "(III)I" } : Jvm.MethodName)) ∈ zTB := List.mem_filter.mpr ⟨List.mem_append_right _ (List.mem_append_right _ (List.mem_append_right _ (List.mem_append_right _ (List.mem_append_right _ (List.mem_append_right _ (List.mem_append_right _ (List.mem_append_right _ (List.mem_append_left _ (List.mem_of_getElem? (i := 136) rfl))))))))), rfl⟩
theorem wd_1818 : (Jvm.Cond.code ({ cls := "ParlourLeavesModel", name := "does", desc := "(III)I" } : Jvm.MethodName) prog_14_method_68_code (4 : Nat) (Option.some Jvm.ClassFile.FieldType.int)) ∈ zTB := List.mem_filter.mpr ⟨List.mem_append_right _ (List.mem_append_right _ (List.mem_append_right _ (List.mem_append_right _ (List.mem_append_right _ (List.mem_append_right _ (List.mem_append_right _ (List.mem_append_right _ (List.mem_append_left _ (List.mem_of_getElem? (i := 138) rfl))))))))), rfl⟩
theorem cv_L_70 : zCV RL RX12 70 yX12_does cX12_does 4 (some .int) 3 := ⟨rfl, ⟨by decide, by decide, by decide +kernel⟩, wd_1815, wd_1816, wd_1817, wd_19, wd_1818⟩
theorem dL_law_599 : decode cL_law 599 = .ok (.if_icmp .eq 669, 3) := by decide +kernel
set_option maxHeartbeats 1000000 in
set_option maxRecDepth 100000 in
theorem law_9 {p : Program} {l : Launch} {e : Env} {s : State} {m : MethodId} {below : List Frame} {meth : Method} {c : Code} {D : va_G} {cy : Nat → ClassId} {kK kV q qm : Nat → Nat} {o b L i cells slots : Nat} {xs : Nat → Int32} {Q : State → Prop} (cx : zX RL cL_law 7 p s m #[Value.ref b] c D cy) (hE : zEn kK kV (zAL s) s) (hX : va_X b L xs s s.heap) (hbl : b < s.heap.size) (hL : L ≤ 3072) (hi : i + 6 ≤ L) (hcl : cells + 2 ≤ 601024) (hsl : slots + 68 ≤ 7293034) (hl0 : l.stackTraces = false)
    (KC : ∀ (H : Heap) (locs : List Loc) (ls : Array Slot) (c1 s1 : Nat), zIv D cy s q qm o H locs → lv_has ls 7 [(4, .int (nI i)), (0, .ref b), (1, .ref (q 0)), (2, .ref (qm 0)), (3, .ref o)] → c1 ≤ cells + 2 → s1 ≤ slots + 68 → W p l e room_1 s m #[Value.ref b] below meth c H locs c1 s1 Q (F0 m 1268 ls []))
    {H : Heap} {locs : List Loc} {ls : Array Slot} (hv : zIv D cy s q qm o H locs) (hl : lv_has ls 7 [(4, .int (nI i)), (0, .ref b), (1, .ref (q 0)), (2, .ref (qm 0)), (3, .ref o)]) : W p l e room_1 s m #[Value.ref b] below meth c H locs cells slots Q (F0 m 555 ls []) := by
  have hx := cx.1
  have hb := cx.2.1
  have hbA : ¬ zAL s b := Nat.not_le.mpr hbl
  have hRc : zRc cells slots room_1 := ⟨by show cells + 0 ≤ 601024; omega, by show slots + 0 ≤ 7293034; omega⟩
  have in1 : vp_in (nI i + (1 : Int32)) L := zl_in (j := 1) hi hL (by decide)
  have in2 : vp_in (nI i + (2 : Int32)) L := zl_in (j := 2) hi hL (by decide)
  have in3 : vp_in (nI i + (3 : Int32)) L := zl_in (j := 3) hi hL (by decide)
  obtain ⟨S, T, tx, u, f, r, hu, hse, hw, hS⟩ := hv
  obtain ⟨z, S', T', h1, h2, r2⟩ := ov_does r (xs (nI i + (1 : Int32)).toNatClampNeg) (xs (nI i + (2 : Int32)).toNatClampNeg) (xs (nI i + (3 : Int32)).toNatClampNeg)
  refine lv_aload_n (pc := 555) hx hb dL_law_555 rfl (lv_at hl 2 rfl) ?_
  refine lv_aload_n (pc := 556) hx hb dL_law_556 rfl (lv_at hl 1 rfl) ?_
  refine lv_iload (pc := 557) hx hb dL_law_557 (lv_at hl 0 rfl) ?_
  refine lv_iconst (pc := 559) hx hb dL_law_559 zc_1 ?_
  refine lv_iadd (pc := 560) hx hb dL_law_560 ?_
  refine va_sld (pc := 561) hx hb hX hbl hbA hS in1 dL_law_561 ?_
  refine lv_aload_n (pc := 562) hx hb dL_law_562 rfl (lv_at hl 1 rfl) ?_
  refine lv_iload (pc := 563) hx hb dL_law_563 (lv_at hl 0 rfl) ?_
  refine lv_iconst (pc := 565) hx hb dL_law_565 zc_2 ?_
  refine lv_iadd (pc := 566) hx hb dL_law_566 ?_
  refine va_sld (pc := 567) hx hb hX hbl hbA hS in2 dL_law_567 ?_
  refine lv_aload_n (pc := 568) hx hb dL_law_568 rfl (lv_at hl 1 rfl) ?_
  refine lv_iload (pc := 569) hx hb dL_law_569 (lv_at hl 0 rfl) ?_
  refine lv_iconst (pc := 571) hx hb dL_law_571 zc_3 ?_
  refine lv_iadd (pc := 572) hx hb dL_law_572 ?_
  refine va_sld (pc := 573) hx hb hX hbl hbA hS in3 dL_law_573 ?_
  refine zl_C (pc := 574) (As := [.int (xs (nI i + (1 : Int32)).toNatClampNeg), .int (xs (nI i + (2 : Int32)).toNatClampNeg), .int (xs (nI i + (3 : Int32)).toNatClampNeg)]) (rest := []) cx cv_L_66 hse (mX11_does hse.qC h1) ⟨⟨rfl, rfl⟩, Nat.le_of_ble_eq_true rfl, Nat.le_of_ble_eq_true rfl⟩ hRc hS hw hl.1 rfl rfl (Nat.le_of_ble_eq_true rfl) dL_law_574 (fun H locs hS hw => ?_)
  refine lv_aload_n (pc := 577) hx hb dL_law_577 rfl (lv_at hl 3 rfl) ?_
  refine lv_aload_n (pc := 578) hx hb dL_law_578 rfl (lv_at hl 1 rfl) ?_
  refine lv_iload (pc := 579) hx hb dL_law_579 (lv_at hl 0 rfl) ?_
  refine lv_iconst (pc := 581) hx hb dL_law_581 zc_1 ?_
  refine lv_iadd (pc := 582) hx hb dL_law_582 ?_
  refine va_sld (pc := 583) hx hb hX hbl hbA hS in1 dL_law_583 ?_
  refine lv_aload_n (pc := 584) hx hb dL_law_584 rfl (lv_at hl 1 rfl) ?_
  refine lv_iload (pc := 585) hx hb dL_law_585 (lv_at hl 0 rfl) ?_
  refine lv_iconst (pc := 587) hx hb dL_law_587 zc_2 ?_
  refine lv_iadd (pc := 588) hx hb dL_law_588 ?_
  refine va_sld (pc := 589) hx hb hX hbl hbA hS in2 dL_law_589 ?_
  refine lv_aload_n (pc := 590) hx hb dL_law_590 rfl (lv_at hl 1 rfl) ?_
  refine lv_iload (pc := 591) hx hb dL_law_591 (lv_at hl 0 rfl) ?_
  refine lv_iconst (pc := 593) hx hb dL_law_593 zc_3 ?_
  refine lv_iadd (pc := 594) hx hb dL_law_594 ?_
  refine va_sld (pc := 595) hx hb hX hbl hbA hS in3 dL_law_595 ?_
  refine zl_M (pc := 596) (As := [.int (xs (nI i + (1 : Int32)).toNatClampNeg), .int (xs (nI i + (2 : Int32)).toNatClampNeg), .int (xs (nI i + (3 : Int32)).toNatClampNeg)]) (rest := [.int z]) cx cv_L_70 hse (mX12_does hse.qM h2) ⟨⟨rfl, rfl⟩, Nat.le_of_ble_eq_true rfl, Nat.le_of_ble_eq_true rfl⟩ hRc hS hw hl.1 rfl rfl (Nat.le_of_ble_eq_true rfl) dL_law_596 (fun H locs hS hw => ?_)
  refine lv_icmp_eq (pc := 599) (tgt := 1268) hx hb dL_law_599 (by decide) (fun _ => ?_) (fun c0 => absurd rfl c0)
  exact KC _ _ ls _ _ ⟨S', T', tx, u, f, r2, hu, hse, hw, hS⟩ hl (by omega) (by omega)
theorem dL_law_604 : decode cL_law 604 = .ok (.aload_n 1, 1) := by decide +kernel
theorem dL_law_605 : decode cL_law 605 = .ok (.aload_n 0, 1) := by decide +kernel
theorem dL_law_606 : decode cL_law 606 = .ok (.iload 4, 2) := by decide +kernel
theorem dL_law_608 : decode cL_law 608 = .ok (.iconst 1, 1) := by decide +kernel
theorem dL_law_609 : decode cL_law 609 = .ok (.iadd, 1) := by decide +kernel
theorem dL_law_610 : decode cL_law 610 = .ok (.iaload, 1) := by decide +kernel
theorem dL_law_611 : decode cL_law 611 = .ok (.invokevirtual 71, 3) := by decide +kernel
theorem wd_812 : (Jvm.Cond.selects "ParlourLeaves" ({ cls := "ParlourLeaves", name := "sponge", desc := "(I)I" } : Jvm.MethodName) ({ cls := "ParlourLeaves", name := "sponge", desc := "(I)I" } : Jvm.MethodName)) ∈ zTB := List.mem_filter.mpr ⟨List.mem_append_right _ (List.mem_append_right _ (List.mem_append_right _ (List.mem_append_right _ (List.mem_append_left _ (List.mem_of_getElem? (i := 92) rfl))))), rfl⟩
theorem wd_810 : (Jvm.Cond.methodLink "ParlourLeavesLaw" (71 : Nat) ({ cls := "ParlourLeaves", name := "sponge", desc := "(I)I" } : Jvm.MethodName)) ∈ zTB := List.mem_filter.mpr ⟨List.mem_append_right _ (List.mem_append_right _ (List.mem_append_right _ (List.mem_append_right _ (List.mem_append_left _ (List.mem_of_getElem? (i := 90) rfl))))), rfl⟩
theorem wd_811 : (Jvm.Cond.instanceMethod ({ cls := "ParlourLeaves", name := "sponge", desc := "(I)I" } : Jvm.MethodName)) ∈ zTB := List.mem_filter.mpr ⟨List.mem_append_right _ (List.mem_append_right _ (List.mem_append_right _ (List.mem_append_right _ (List.mem_append_left _ (List.mem_of_getElem? (i := 91) rfl))))), rfl⟩
theorem wd_813 : (Jvm.Cond.code ({ cls := "ParlourLeaves", name := "sponge", desc := "(I)I" } : Jvm.MethodName) prog_1_method_12_code (3 : Nat) (Option.some Jvm.ClassFile.FieldType.int)) ∈ zTB := List.mem_filter.mpr ⟨List.mem_append_right _ (List.mem_append_right _ (List.mem_append_right _ (List.mem_append_right _ (List.mem_append_left _ (List.mem_of_getElem? (i := 93) rfl))))), rfl⟩
theorem cv_L_71 : zCV RL RX11 71 yX11_sponge cX11_sponge 3 (some .int) 1 := ⟨rfl, ⟨by decide, by decide, by decide +kernel⟩, wd_810, wd_811, wd_812, wd_1, wd_813⟩
theorem dL_law_614 : decode cL_law 614 = .ok (.aload_n 2, 1) := by decide +kernel
theorem dL_law_615 : decode cL_law 615 = .ok (.aload_n 0, 1) := by decide +kernel
theorem dL_law_616 : decode cL_law 616 = .ok (.iload 4, 2) := by decide +kernel
theorem dL_law_618 : decode cL_law 618 = .ok (.iconst 1, 1) := by decide +kernel
theorem dL_law_619 : decode cL_law 619 = .ok (.iadd, 1) := by decide +kernel
theorem dL_law_620 : decode cL_law 620 = .ok (.iaload, 1) := by decide +kernel
theorem dL_law_621 : decode cL_law 621 = .ok (.invokevirtual 74, 3) := by decide +kernel
theorem wd_1853 : (Jvm.Cond.selects "ParlourLeavesModel" ({ cls := "ParlourLeavesModel", name := "sponge", desc := "(I)I" } : Jvm.MethodName) ({ cls := "ParlourLeavesModel", name := "sponge", desc := "(I)I" } : Jvm.MethodName)) ∈ zTB := List.mem_filter.mpr ⟨List.mem_append_right _ (List.mem_append_right _ (List.mem_append_right _ (List.mem_append_right _ (List.mem_append_right _ (List.mem_append_right _ (List.mem_append_right _ (List.mem_append_right _ (List.mem_append_left _ (List.mem_of_getElem? (i := 173) rfl))))))))), rfl⟩
theorem wd_1851 : (Jvm.Cond.methodLink "ParlourLeavesLaw" (74 : Nat) ({ cls := "ParlourLeavesModel", name := "sponge", desc := "(I)I" } : Jvm.MethodName)) ∈ zTB := List.mem_filter.mpr ⟨List.mem_append_right _ (List.mem_append_right _ (List.mem_append_right _ (List.mem_append_right _ (List.mem_append_right _ (List.mem_append_right _ (List.mem_append_right _ (List.mem_append_right _ (List.mem_append_left _ (List.mem_of_getElem? (i := 171) rfl))))))))), rfl⟩
theorem wd_1852 : (Jvm.Cond.instanceMethod ({ cls := "ParlourLeavesModel", name := "sponge", desc := "(I)I" } : Jvm.MethodName)) ∈ zTB := List.mem_filter.mpr ⟨List.mem_append_right _ (List.mem_append_right _ (List.mem_append_right _ (List.mem_append_right _ (List.mem_append_right _ (List.mem_append_right _ (List.mem_append_right _ (List.mem_append_right _ (List.mem_append_left _ (List.mem_of_getElem? (i := 172) rfl))))))))), rfl⟩
theorem wd_1854 : (Jvm.Cond.code ({ cls := "ParlourLeavesModel", name := "sponge", desc := "(I)I" } : Jvm.MethodName) prog_14_method_69_code (2 : Nat) (Option.some Jvm.ClassFile.FieldType.int)) ∈ zTB := List.mem_filter.mpr ⟨List.mem_append_right _ (List.mem_append_right _ (List.mem_append_right _ (List.mem_append_right _ (List.mem_append_right _ (List.mem_append_right _ (List.mem_append_right _ (List.mem_append_right _ (List.mem_append_left _ (List.mem_of_getElem? (i := 174) rfl))))))))), rfl⟩
theorem cv_L_74 : zCV RL RX12 74 yX12_sponge cX12_sponge 2 (some .int) 1 := ⟨rfl, ⟨by decide, by decide, by decide +kernel⟩, wd_1851, wd_1852, wd_1853, wd_19, wd_1854⟩
theorem dL_law_624 : decode cL_law 624 = .ok (.if_icmp .eq 644, 3) := by decide +kernel
set_option maxHeartbeats 1000000 in
set_option maxRecDepth 100000 in
theorem law_10 {p : Program} {l : Launch} {e : Env} {s : State} {m : MethodId} {below : List Frame} {meth : Method} {c : Code} {D : va_G} {cy : Nat → ClassId} {kK kV q qm : Nat → Nat} {o b L i cells slots : Nat} {xs : Nat → Int32} {Q : State → Prop} (cx : zX RL cL_law 7 p s m #[Value.ref b] c D cy) (hE : zEn kK kV (zAL s) s) (hX : va_X b L xs s s.heap) (hbl : b < s.heap.size) (hL : L ≤ 3072) (hi : i + 6 ≤ L) (hcl : cells + 2 ≤ 601024) (hsl : slots + 68 ≤ 7293034) (hl0 : l.stackTraces = false)
    (KC : ∀ (H : Heap) (locs : List Loc) (ls : Array Slot) (c1 s1 : Nat), zIv D cy s q qm o H locs → lv_has ls 7 [(4, .int (nI i)), (0, .ref b), (1, .ref (q 0)), (2, .ref (qm 0)), (3, .ref o)] → c1 ≤ cells + 2 → s1 ≤ slots + 68 → W p l e room_1 s m #[Value.ref b] below meth c H locs c1 s1 Q (F0 m 1268 ls []))
    {H : Heap} {locs : List Loc} {ls : Array Slot} (hv : zIv D cy s q qm o H locs) (hl : lv_has ls 7 [(4, .int (nI i)), (0, .ref b), (1, .ref (q 0)), (2, .ref (qm 0)), (3, .ref o)]) : W p l e room_1 s m #[Value.ref b] below meth c H locs cells slots Q (F0 m 604 ls []) := by
  have hx := cx.1
  have hb := cx.2.1
  have hbA : ¬ zAL s b := Nat.not_le.mpr hbl
  have hRc : zRc cells slots room_1 := ⟨by show cells + 0 ≤ 601024; omega, by show slots + 0 ≤ 7293034; omega⟩
  have in1 : vp_in (nI i + (1 : Int32)) L := zl_in (j := 1) hi hL (by decide)
  obtain ⟨S, T, tx, u, f, r, hu, hse, hw, hS⟩ := hv
  obtain ⟨z, S', T', h1, h2, r2⟩ := ov_sponge r (xs (nI i + (1 : Int32)).toNatClampNeg)
  refine lv_aload_n (pc := 604) hx hb dL_law_604 rfl (lv_at hl 2 rfl) ?_
  refine lv_aload_n (pc := 605) hx hb dL_law_605 rfl (lv_at hl 1 rfl) ?_
  refine lv_iload (pc := 606) hx hb dL_law_606 (lv_at hl 0 rfl) ?_
  refine lv_iconst (pc := 608) hx hb dL_law_608 zc_1 ?_
  refine lv_iadd (pc := 609) hx hb dL_law_609 ?_
  refine va_sld (pc := 610) hx hb hX hbl hbA hS in1 dL_law_610 ?_
  refine zl_C (pc := 611) (As := [.int (xs (nI i + (1 : Int32)).toNatClampNeg)]) (rest := []) cx cv_L_71 hse (mX11_sponge hse.qC h1) ⟨⟨rfl, rfl⟩, Nat.le_of_ble_eq_true rfl, Nat.le_of_ble_eq_true rfl⟩ hRc hS hw hl.1 rfl rfl (Nat.le_of_ble_eq_true rfl) dL_law_611 (fun H locs hS hw => ?_)
  refine lv_aload_n (pc := 614) hx hb dL_law_614 rfl (lv_at hl 3 rfl) ?_
  refine lv_aload_n (pc := 615) hx hb dL_law_615 rfl (lv_at hl 1 rfl) ?_
  refine lv_iload (pc := 616) hx hb dL_law_616 (lv_at hl 0 rfl) ?_
  refine lv_iconst (pc := 618) hx hb dL_law_618 zc_1 ?_
  refine lv_iadd (pc := 619) hx hb dL_law_619 ?_
  refine va_sld (pc := 620) hx hb hX hbl hbA hS in1 dL_law_620 ?_
  refine zl_M (pc := 621) (As := [.int (xs (nI i + (1 : Int32)).toNatClampNeg)]) (rest := [.int z]) cx cv_L_74 hse (mX12_sponge hse.qM h2) ⟨⟨rfl, rfl⟩, Nat.le_of_ble_eq_true rfl, Nat.le_of_ble_eq_true rfl⟩ hRc hS hw hl.1 rfl rfl (Nat.le_of_ble_eq_true rfl) dL_law_621 (fun H locs hS hw => ?_)
  refine lv_icmp_eq (pc := 624) (tgt := 1268) hx hb dL_law_624 (by decide) (fun _ => ?_) (fun c0 => absurd rfl c0)
  exact KC _ _ ls _ _ ⟨S', T', tx, u, f, r2, hu, hse, hw, hS⟩ hl (by omega) (by omega)
theorem dL_law_629 : decode cL_law 629 = .ok (.aload_n 1, 1) := by decide +kernel
theorem dL_law_630 : decode cL_law 630 = .ok (.aload_n 0, 1) := by decide +kernel
theorem dL_law_631 : decode cL_law 631 = .ok (.iload 4, 2) := by decide +kernel
theorem dL_law_633 : decode cL_law 633 = .ok (.iconst 1, 1) := by decide +kernel
theorem dL_law_634 : decode cL_law 634 = .ok (.iadd, 1) := by decide +kernel
theorem dL_law_635 : decode cL_law 635 = .ok (.iaload, 1) := by decide +kernel
theorem dL_law_636 : decode cL_law 636 = .ok (.aload_n 0, 1) := by decide +kernel
theorem dL_law_637 : decode cL_law 637 = .ok (.iload 4, 2) := by decide +kernel
theorem dL_law_639 : decode cL_law 639 = .ok (.iconst 2, 1) := by decide +kernel
theorem dL_law_640 : decode cL_law 640 = .ok (.iadd, 1) := by decide +kernel
theorem dL_law_641 : decode cL_law 641 = .ok (.iaload, 1) := by decide +kernel
theorem dL_law_642 : decode cL_law 642 = .ok (.invokevirtual 75, 3) := by decide +kernel
theorem wd_824 : (Jvm.Cond.selects "ParlourLeaves" ({ cls := "ParlourLeaves", name := "carry", desc := "(II)I" } : Jvm.MethodName) ({ cls := "ParlourLeaves", name := "carry", desc := "(II)I" } : Jvm.MethodName)) ∈ zTB := List.mem_filter.mpr ⟨List.mem_append_right _ (List.mem_append_right _ (List.mem_append_right _ (List.mem_append_right _ (List.mem_append_left _ (List.mem_of_getElem? (i := 104) rfl))))), rfl⟩
theorem wd_822 : (Jvm.Cond.methodLink "ParlourLeavesLaw" (75 : Nat) ({ cls := "ParlourLeaves", name := "carry", desc := "(II)I" } : Jvm.MethodName)) ∈ zTB := List.mem_filter.mpr ⟨List.mem_append_right _ (List.mem_append_right _ (List.mem_append_right _ (List.mem_append_right _ (List.mem_append_left _ (List.mem_of_getElem? (i := 102) rfl))))), rfl⟩
theorem wd_823 : (Jvm.Cond.instanceMethod ({ cls := "ParlourLeaves", name := "carry", desc := "(II)I" } : Jvm.MethodName)) ∈ zTB := List.mem_filter.mpr ⟨List.mem_append_right _ (List.mem_append_right _ (List.mem_append_right _ (List.mem_append_right _ (List.mem_append_left _ (List.mem_of_getElem? (i := 103) rfl))))), rfl⟩
theorem wd_825 : (Jvm.Cond.code ({ cls := "ParlourLeaves", name := "carry", desc := "(II)I" } : Jvm.MethodName) prog_1_method_13_code (4 : Nat) (Option.some Jvm.ClassFile.FieldType.int)) ∈ zTB := List.mem_filter.mpr ⟨List.mem_append_right _ (List.mem_append_right _ (List.mem_append_right _ (List.mem_append_right _ (List.mem_append_left _ (List.mem_of_getElem? (i := 105) rfl))))), rfl⟩
theorem cv_L_75 : zCV RL RX11 75 yX11_carry cX11_carry 4 (some .int) 2 := ⟨rfl, ⟨by decide, by decide, by decide +kernel⟩, wd_822, wd_823, wd_824, wd_1, wd_825⟩
theorem dL_law_645 : decode cL_law 645 = .ok (.aload_n 2, 1) := by decide +kernel
theorem dL_law_646 : decode cL_law 646 = .ok (.aload_n 0, 1) := by decide +kernel
theorem dL_law_647 : decode cL_law 647 = .ok (.iload 4, 2) := by decide +kernel
theorem dL_law_649 : decode cL_law 649 = .ok (.iconst 1, 1) := by decide +kernel
theorem dL_law_650 : decode cL_law 650 = .ok (.iadd, 1) := by decide +kernel
theorem dL_law_651 : decode cL_law 651 = .ok (.iaload, 1) := by decide +kernel
theorem dL_law_652 : decode cL_law 652 = .ok (.aload_n 0, 1) := by decide +kernel
theorem dL_law_653 : decode cL_law 653 = .ok (.iload 4, 2) := by decide +kernel
theorem dL_law_655 : decode cL_law 655 = .ok (.iconst 2, 1) := by decide +kernel
theorem dL_law_656 : decode cL_law 656 = .ok (.iadd, 1) := by decide +kernel
theorem dL_law_657 : decode cL_law 657 = .ok (.iaload, 1) := by decide +kernel
theorem dL_law_658 : decode cL_law 658 = .ok (.invokevirtual 78, 3) := by decide +kernel
theorem wd_1857 : (Jvm.Cond.selects "ParlourLeavesModel" ({ cls := "ParlourLeavesModel", name := "carry", desc := "(II)I" } : Jvm.MethodName) ({ cls := "ParlourLeavesModel", name := "carry", desc := "(II)I" } : Jvm.MethodName)) ∈ zTB := List.mem_filter.mpr ⟨List.mem_append_right _ (List.mem_append_right _ (List.mem_append_right _ (List.mem_append_right _ (List.mem_append_right _ (List.mem_append_right _ (List.mem_append_right _ (List.mem_append_right _ (List.mem_append_left _ (List.mem_of_getElem? (i := 177) rfl))))))))), rfl⟩
theorem wd_1855 : (Jvm.Cond.methodLink "ParlourLeavesLaw" (78 : Nat) ({ cls := "ParlourLeavesModel", name := "carry", desc := "(II)I" } : Jvm.MethodName)) ∈ zTB := List.mem_filter.mpr ⟨List.mem_append_right _ (List.mem_append_right _ (List.mem_append_right _ (List.mem_append_right _ (List.mem_append_right _ (List.mem_append_right _ (List.mem_append_right _ (List.mem_append_right _ (List.mem_append_left _ (List.mem_of_getElem? (i := 175) rfl))))))))), rfl⟩
theorem wd_1856 : (Jvm.Cond.instanceMethod ({ cls := "ParlourLeavesModel", name := "carry", desc := "(II)I" } : Jvm.MethodName)) ∈ zTB := List.mem_filter.mpr ⟨List.mem_append_right _ (List.mem_append_right _ (List.mem_append_right _ (List.mem_append_right _ (List.mem_append_right _ (List.mem_append_right _ (List.mem_append_right _ (List.mem_append_right _ (List.mem_append_left _ (List.mem_of_getElem? (i := 176) rfl))))))))), rfl⟩
theorem wd_1858 : (Jvm.Cond.code ({ cls := "ParlourLeavesModel", name := "carry", desc := "(II)I" } : Jvm.MethodName) prog_14_method_70_code (3 : Nat) (Option.some Jvm.ClassFile.FieldType.int)) ∈ zTB := List.mem_filter.mpr ⟨List.mem_append_right _ (List.mem_append_right _ (List.mem_append_right _ (List.mem_append_right _ (List.mem_append_right _ (List.mem_append_right _ (List.mem_append_right _ (List.mem_append_right _ (List.mem_append_left _ (List.mem_of_getElem? (i := 178) rfl))))))))), rfl⟩
theorem cv_L_78 : zCV RL RX12 78 yX12_carry cX12_carry 3 (some .int) 2 := ⟨rfl, ⟨by decide, by decide, by decide +kernel⟩, wd_1855, wd_1856, wd_1857, wd_19, wd_1858⟩
theorem dL_law_661 : decode cL_law 661 = .ok (.if_icmp .eq 607, 3) := by decide +kernel
set_option maxHeartbeats 1000000 in
set_option maxRecDepth 100000 in
theorem law_11 {p : Program} {l : Launch} {e : Env} {s : State} {m : MethodId} {below : List Frame} {meth : Method} {c : Code} {D : va_G} {cy : Nat → ClassId} {kK kV q qm : Nat → Nat} {o b L i cells slots : Nat} {xs : Nat → Int32} {Q : State → Prop} (cx : zX RL cL_law 7 p s m #[Value.ref b] c D cy) (hE : zEn kK kV (zAL s) s) (hX : va_X b L xs s s.heap) (hbl : b < s.heap.size) (hL : L ≤ 3072) (hi : i + 6 ≤ L) (hcl : cells + 2 ≤ 601024) (hsl : slots + 68 ≤ 7293034) (hl0 : l.stackTraces = false)
    (KC : ∀ (H : Heap) (locs : List Loc) (ls : Array Slot) (c1 s1 : Nat), zIv D cy s q qm o H locs → lv_has ls 7 [(4, .int (nI i)), (0, .ref b), (1, .ref (q 0)), (2, .ref (qm 0)), (3, .ref o)] → c1 ≤ cells + 2 → s1 ≤ slots + 68 → W p l e room_1 s m #[Value.ref b] below meth c H locs c1 s1 Q (F0 m 1268 ls []))
    {H : Heap} {locs : List Loc} {ls : Array Slot} (hv : zIv D cy s q qm o H locs) (hl : lv_has ls 7 [(4, .int (nI i)), (0, .ref b), (1, .ref (q 0)), (2, .ref (qm 0)), (3, .ref o)]) : W p l e room_1 s m #[Value.ref b] below meth c H locs cells slots Q (F0 m 629 ls []) := by
  have hx := cx.1
  have hb := cx.2.1
  have hbA : ¬ zAL s b := Nat.not_le.mpr hbl
  have hRc : zRc cells slots room_1 := ⟨by show cells + 0 ≤ 601024; omega, by show slots + 0 ≤ 7293034; omega⟩
  have in1 : vp_in (nI i + (1 : Int32)) L := zl_in (j := 1) hi hL (by decide)
  have in2 : vp_in (nI i + (2 : Int32)) L := zl_in (j := 2) hi hL (by decide)
  obtain ⟨S, T, tx, u, f, r, hu, hse, hw, hS⟩ := hv
  obtain ⟨z, S', T', h1, h2, r2⟩ := ov_carry r (xs (nI i + (1 : Int32)).toNatClampNeg) (xs (nI i + (2 : Int32)).toNatClampNeg)
  refine lv_aload_n (pc := 629) hx hb dL_law_629 rfl (lv_at hl 2 rfl) ?_
  refine lv_aload_n (pc := 630) hx hb dL_law_630 rfl (lv_at hl 1 rfl) ?_
  refine lv_iload (pc := 631) hx hb dL_law_631 (lv_at hl 0 rfl) ?_
  refine lv_iconst (pc := 633) hx hb dL_law_633 zc_1 ?_
  refine lv_iadd (pc := 634) hx hb dL_law_634 ?_
  refine va_sld (pc := 635) hx hb hX hbl hbA hS in1 dL_law_635 ?_
  refine lv_aload_n (pc := 636) hx hb dL_law_636 rfl (lv_at hl 1 rfl) ?_
  refine lv_iload (pc := 637) hx hb dL_law_637 (lv_at hl 0 rfl) ?_
  refine lv_iconst (pc := 639) hx hb dL_law_639 zc_2 ?_
  refine lv_iadd (pc := 640) hx hb dL_law_640 ?_
  refine va_sld (pc := 641) hx hb hX hbl hbA hS in2 dL_law_641 ?_
  refine zl_C (pc := 642) (As := [.int (xs (nI i + (1 : Int32)).toNatClampNeg), .int (xs (nI i + (2 : Int32)).toNatClampNeg)]) (rest := []) cx cv_L_75 hse (mX11_carry hse.qC h1) ⟨⟨rfl, rfl⟩, Nat.le_of_ble_eq_true rfl, Nat.le_of_ble_eq_true rfl⟩ hRc hS hw hl.1 rfl rfl (Nat.le_of_ble_eq_true rfl) dL_law_642 (fun H locs hS hw => ?_)
  refine lv_aload_n (pc := 645) hx hb dL_law_645 rfl (lv_at hl 3 rfl) ?_
  refine lv_aload_n (pc := 646) hx hb dL_law_646 rfl (lv_at hl 1 rfl) ?_
  refine lv_iload (pc := 647) hx hb dL_law_647 (lv_at hl 0 rfl) ?_
  refine lv_iconst (pc := 649) hx hb dL_law_649 zc_1 ?_
  refine lv_iadd (pc := 650) hx hb dL_law_650 ?_
  refine va_sld (pc := 651) hx hb hX hbl hbA hS in1 dL_law_651 ?_
  refine lv_aload_n (pc := 652) hx hb dL_law_652 rfl (lv_at hl 1 rfl) ?_
  refine lv_iload (pc := 653) hx hb dL_law_653 (lv_at hl 0 rfl) ?_
  refine lv_iconst (pc := 655) hx hb dL_law_655 zc_2 ?_
  refine lv_iadd (pc := 656) hx hb dL_law_656 ?_
  refine va_sld (pc := 657) hx hb hX hbl hbA hS in2 dL_law_657 ?_
  refine zl_M (pc := 658) (As := [.int (xs (nI i + (1 : Int32)).toNatClampNeg), .int (xs (nI i + (2 : Int32)).toNatClampNeg)]) (rest := [.int z]) cx cv_L_78 hse (mX12_carry hse.qM h2) ⟨⟨rfl, rfl⟩, Nat.le_of_ble_eq_true rfl, Nat.le_of_ble_eq_true rfl⟩ hRc hS hw hl.1 rfl rfl (Nat.le_of_ble_eq_true rfl) dL_law_658 (fun H locs hS hw => ?_)
  refine lv_icmp_eq (pc := 661) (tgt := 1268) hx hb dL_law_661 (by decide) (fun _ => ?_) (fun c0 => absurd rfl c0)
  exact KC _ _ ls _ _ ⟨S', T', tx, u, f, r2, hu, hse, hw, hS⟩ hl (by omega) (by omega)
theorem dL_law_666 : decode cL_law 666 = .ok (.aload_n 1, 1) := by decide +kernel
theorem dL_law_667 : decode cL_law 667 = .ok (.aload_n 0, 1) := by decide +kernel
theorem dL_law_668 : decode cL_law 668 = .ok (.iload 4, 2) := by decide +kernel
theorem dL_law_670 : decode cL_law 670 = .ok (.iconst 1, 1) := by decide +kernel
theorem dL_law_671 : decode cL_law 671 = .ok (.iadd, 1) := by decide +kernel
theorem dL_law_672 : decode cL_law 672 = .ok (.iaload, 1) := by decide +kernel
theorem dL_law_673 : decode cL_law 673 = .ok (.invokevirtual 79, 3) := by decide +kernel
theorem wd_836 : (Jvm.Cond.selects "ParlourLeaves" ({ cls := "ParlourLeaves", name := "days", desc := "(I)I" } : Jvm.MethodName) ({ cls := "ParlourLeaves", name := "days", desc := "(I)I" } : Jvm.MethodName)) ∈ zTB := List.mem_filter.mpr ⟨List.mem_append_right _ (List.mem_append_right _ (List.mem_append_right _ (List.mem_append_right _ (List.mem_append_left _ (List.mem_of_getElem? (i := 116) rfl))))), rfl⟩
theorem wd_834 : (Jvm.Cond.methodLink "ParlourLeavesLaw" (79 : Nat) ({ cls := "ParlourLeaves", name := "days", desc := "(I)I" } : Jvm.MethodName)) ∈ zTB := List.mem_filter.mpr ⟨List.mem_append_right _ (List.mem_append_right _ (List.mem_append_right _ (List.mem_append_right _ (List.mem_append_left _ (List.mem_of_getElem? (i := 114) rfl))))), rfl⟩
theorem wd_835 : (Jvm.Cond.instanceMethod ({ cls := "ParlourLeaves", name := "days", desc := "(I)I" } : Jvm.MethodName)) ∈ zTB := List.mem_filter.mpr ⟨List.mem_append_right _ (List.mem_append_right _ (List.mem_append_right _ (List.mem_append_right _ (List.mem_append_left _ (List.mem_of_getElem? (i := 115) rfl))))), rfl⟩
theorem wd_837 : (Jvm.Cond.code ({ cls := "ParlourLeaves", name := "days", desc := "(I)I" } : Jvm.MethodName) prog_1_method_14_code (2 : Nat) (Option.some Jvm.ClassFile.FieldType.int)) ∈ zTB := List.mem_filter.mpr ⟨List.mem_append_right _ (List.mem_append_right _ (List.mem_append_right _ (List.mem_append_right _ (List.mem_append_left _ (List.mem_of_getElem? (i := 117) rfl))))), rfl⟩
theorem cv_L_79 : zCV RL RX11 79 yX11_days cX11_days 2 (some .int) 1 := ⟨rfl, ⟨by decide, by decide, by decide +kernel⟩, wd_834, wd_835, wd_836, wd_1, wd_837⟩
theorem dL_law_676 : decode cL_law 676 = .ok (.aload_n 2, 1) := by decide +kernel
theorem dL_law_677 : decode cL_law 677 = .ok (.aload_n 0, 1) := by decide +kernel
theorem dL_law_678 : decode cL_law 678 = .ok (.iload 4, 2) := by decide +kernel
theorem dL_law_680 : decode cL_law 680 = .ok (.iconst 1, 1) := by decide +kernel
theorem dL_law_681 : decode cL_law 681 = .ok (.iadd, 1) := by decide +kernel
theorem dL_law_682 : decode cL_law 682 = .ok (.iaload, 1) := by decide +kernel
theorem dL_law_683 : decode cL_law 683 = .ok (.invokevirtual 82, 3) := by decide +kernel
theorem wd_1865 : (Jvm.Cond.selects "ParlourLeavesModel" ({ cls := "ParlourLeavesModel", name := "days", desc := "(I)I" } : Jvm.MethodName) ({ cls := "ParlourLeavesModel", name := "days", desc := "(I)I" } : Jvm.MethodName)) ∈ zTB := List.mem_filter.mpr ⟨List.mem_append_right _ (List.mem_append_right _ (List.mem_append_right _ (List.mem_append_right _ (List.mem_append_right _ (List.mem_append_right _ (List.mem_append_right _ (List.mem_append_right _ (List.mem_append_left _ (List.mem_of_getElem? (i := 185) rfl))))))))), rfl⟩
theorem wd_1863 : (Jvm.Cond.methodLink "ParlourLeavesLaw" (82 : Nat) ({ cls := "ParlourLeavesModel", name := "days", desc := "(I)I" } : Jvm.MethodName)) ∈ zTB := List.mem_filter.mpr ⟨List.mem_append_right _ (List.mem_append_right _ (List.mem_append_right _ (List.mem_append_right _ (List.mem_append_right _ (List.mem_append_right _ (List.mem_append_right _ (List.mem_append_right _ (List.mem_append_left _ (List.mem_of_getElem? (i := 183) rfl))))))))), rfl⟩
theorem wd_1864 : (Jvm.Cond.instanceMethod ({ cls := "ParlourLeavesModel", name := "days", desc := "(I)I" } : Jvm.MethodName)) ∈ zTB := List.mem_filter.mpr ⟨List.mem_append_right _ (List.mem_append_right _ (List.mem_append_right _ (List.mem_append_right _ (List.mem_append_right _ (List.mem_append_right _ (List.mem_append_right _ (List.mem_append_right _ (List.mem_append_left _ (List.mem_of_getElem? (i := 184) rfl))))))))), rfl⟩
theorem wd_1866 : (Jvm.Cond.code ({ cls := "ParlourLeavesModel", name := "days", desc := "(I)I" } : Jvm.MethodName) prog_14_method_74_code (2 : Nat) (Option.some Jvm.ClassFile.FieldType.int)) ∈ zTB := List.mem_filter.mpr ⟨List.mem_append_right _ (List.mem_append_right _ (List.mem_append_right _ (List.mem_append_right _ (List.mem_append_right _ (List.mem_append_right _ (List.mem_append_right _ (List.mem_append_right _ (List.mem_append_left _ (List.mem_of_getElem? (i := 186) rfl))))))))), rfl⟩
theorem cv_L_82 : zCV RL RX12 82 yX12_days cX12_days 2 (some .int) 1 := ⟨rfl, ⟨by decide, by decide, by decide +kernel⟩, wd_1863, wd_1864, wd_1865, wd_19, wd_1866⟩
theorem dL_law_686 : decode cL_law 686 = .ok (.if_icmp .eq 582, 3) := by decide +kernel
set_option maxHeartbeats 1000000 in
set_option maxRecDepth 100000 in
theorem law_12 {p : Program} {l : Launch} {e : Env} {s : State} {m : MethodId} {below : List Frame} {meth : Method} {c : Code} {D : va_G} {cy : Nat → ClassId} {kK kV q qm : Nat → Nat} {o b L i cells slots : Nat} {xs : Nat → Int32} {Q : State → Prop} (cx : zX RL cL_law 7 p s m #[Value.ref b] c D cy) (hE : zEn kK kV (zAL s) s) (hX : va_X b L xs s s.heap) (hbl : b < s.heap.size) (hL : L ≤ 3072) (hi : i + 6 ≤ L) (hcl : cells + 2 ≤ 601024) (hsl : slots + 68 ≤ 7293034) (hl0 : l.stackTraces = false)
    (KC : ∀ (H : Heap) (locs : List Loc) (ls : Array Slot) (c1 s1 : Nat), zIv D cy s q qm o H locs → lv_has ls 7 [(4, .int (nI i)), (0, .ref b), (1, .ref (q 0)), (2, .ref (qm 0)), (3, .ref o)] → c1 ≤ cells + 2 → s1 ≤ slots + 68 → W p l e room_1 s m #[Value.ref b] below meth c H locs c1 s1 Q (F0 m 1268 ls []))
    {H : Heap} {locs : List Loc} {ls : Array Slot} (hv : zIv D cy s q qm o H locs) (hl : lv_has ls 7 [(4, .int (nI i)), (0, .ref b), (1, .ref (q 0)), (2, .ref (qm 0)), (3, .ref o)]) : W p l e room_1 s m #[Value.ref b] below meth c H locs cells slots Q (F0 m 666 ls []) := by
  have hx := cx.1
  have hb := cx.2.1
  have hbA : ¬ zAL s b := Nat.not_le.mpr hbl
  have hRc : zRc cells slots room_1 := ⟨by show cells + 0 ≤ 601024; omega, by show slots + 0 ≤ 7293034; omega⟩
  have in1 : vp_in (nI i + (1 : Int32)) L := zl_in (j := 1) hi hL (by decide)
  obtain ⟨S, T, tx, u, f, r, hu, hse, hw, hS⟩ := hv
  obtain ⟨z, S', T', h1, h2, r2⟩ := ov_days r (xs (nI i + (1 : Int32)).toNatClampNeg)
  refine lv_aload_n (pc := 666) hx hb dL_law_666 rfl (lv_at hl 2 rfl) ?_
  refine lv_aload_n (pc := 667) hx hb dL_law_667 rfl (lv_at hl 1 rfl) ?_
  refine lv_iload (pc := 668) hx hb dL_law_668 (lv_at hl 0 rfl) ?_
  refine lv_iconst (pc := 670) hx hb dL_law_670 zc_1 ?_
  refine lv_iadd (pc := 671) hx hb dL_law_671 ?_
  refine va_sld (pc := 672) hx hb hX hbl hbA hS in1 dL_law_672 ?_
  refine zl_C (pc := 673) (As := [.int (xs (nI i + (1 : Int32)).toNatClampNeg)]) (rest := []) cx cv_L_79 hse (mX11_days hse.qC h1) ⟨⟨rfl, rfl⟩, Nat.le_of_ble_eq_true rfl, Nat.le_of_ble_eq_true rfl⟩ hRc hS hw hl.1 rfl rfl (Nat.le_of_ble_eq_true rfl) dL_law_673 (fun H locs hS hw => ?_)
  refine lv_aload_n (pc := 676) hx hb dL_law_676 rfl (lv_at hl 3 rfl) ?_
  refine lv_aload_n (pc := 677) hx hb dL_law_677 rfl (lv_at hl 1 rfl) ?_
  refine lv_iload (pc := 678) hx hb dL_law_678 (lv_at hl 0 rfl) ?_
  refine lv_iconst (pc := 680) hx hb dL_law_680 zc_1 ?_
  refine lv_iadd (pc := 681) hx hb dL_law_681 ?_
  refine va_sld (pc := 682) hx hb hX hbl hbA hS in1 dL_law_682 ?_
  refine zl_M (pc := 683) (As := [.int (xs (nI i + (1 : Int32)).toNatClampNeg)]) (rest := [.int z]) cx cv_L_82 hse (mX12_days hse.qM h2) ⟨⟨rfl, rfl⟩, Nat.le_of_ble_eq_true rfl, Nat.le_of_ble_eq_true rfl⟩ hRc hS hw hl.1 rfl rfl (Nat.le_of_ble_eq_true rfl) dL_law_683 (fun H locs hS hw => ?_)
  refine lv_icmp_eq (pc := 686) (tgt := 1268) hx hb dL_law_686 (by decide) (fun _ => ?_) (fun c0 => absurd rfl c0)
  exact KC _ _ ls _ _ ⟨S', T', tx, u, f, r2, hu, hse, hw, hS⟩ hl (by omega) (by omega)
theorem dL_law_691 : decode cL_law 691 = .ok (.aload_n 1, 1) := by decide +kernel
theorem dL_law_692 : decode cL_law 692 = .ok (.invokevirtual 83, 3) := by decide +kernel
theorem wd_850 : (Jvm.Cond.selects "ParlourLeaves" ({ cls := "ParlourLeaves", name := "undo", desc := "()I" } : Jvm.MethodName) ({ cls := "ParlourLeaves", name := "undo", desc := "()I" } : Jvm.MethodName)) ∈ zTB := List.mem_filter.mpr ⟨List.mem_append_right _ (List.mem_append_right _ (List.mem_append_right _ (List.mem_append_right _ (List.mem_append_left _ (List.mem_of_getElem? (i := 130) rfl))))), rfl⟩
theorem wd_848 : (Jvm.Cond.methodLink "ParlourLeavesLaw" (83 : Nat) ({ cls := "ParlourLeaves", name := "undo", desc := "()I" } : Jvm.MethodName)) ∈ zTB := List.mem_filter.mpr ⟨List.mem_append_right _ (List.mem_append_right _ (List.mem_append_right _ (List.mem_append_right _ (List.mem_append_left _ (List.mem_of_getElem? (i := 128) rfl))))), rfl⟩
theorem wd_849 : (Jvm.Cond.instanceMethod ({ cls := "ParlourLeaves", name := "undo", desc := "()I" } : Jvm.MethodName)) ∈ zTB := List.mem_filter.mpr ⟨List.mem_append_right _ (List.mem_append_right _ (List.mem_append_right _ (List.mem_append_right _ (List.mem_append_left _ (List.mem_of_getElem? (i := 129) rfl))))), rfl⟩
theorem wd_851 : (Jvm.Cond.code ({ cls := "ParlourLeaves", name := "undo", desc := "()I" } : Jvm.MethodName) prog_1_method_15_code (1 : Nat) (Option.some Jvm.ClassFile.FieldType.int)) ∈ zTB := List.mem_filter.mpr ⟨List.mem_append_right _ (List.mem_append_right _ (List.mem_append_right _ (List.mem_append_right _ (List.mem_append_left _ (List.mem_of_getElem? (i := 131) rfl))))), rfl⟩
theorem cv_L_83 : zCV RL RX11 83 yX11_undo cX11_undo 1 (some .int) 0 := ⟨rfl, ⟨by decide, by decide, by decide +kernel⟩, wd_848, wd_849, wd_850, wd_1, wd_851⟩
theorem dL_law_695 : decode cL_law 695 = .ok (.aload_n 2, 1) := by decide +kernel
theorem dL_law_696 : decode cL_law 696 = .ok (.invokevirtual 86, 3) := by decide +kernel
theorem wd_1861 : (Jvm.Cond.selects "ParlourLeavesModel" ({ cls := "ParlourLeavesModel", name := "undo", desc := "()I" } : Jvm.MethodName) ({ cls := "ParlourLeavesModel", name := "undo", desc := "()I" } : Jvm.MethodName)) ∈ zTB := List.mem_filter.mpr ⟨List.mem_append_right _ (List.mem_append_right _ (List.mem_append_right _ (List.mem_append_right _ (List.mem_append_right _ (List.mem_append_right _ (List.mem_append_right _ (List.mem_append_right _ (List.mem_append_left _ (List.mem_of_getElem? (i := 181) rfl))))))))), rfl⟩
theorem wd_1859 : (Jvm.Cond.methodLink "ParlourLeavesLaw" (86 : Nat) ({ cls := "ParlourLeavesModel", name := "undo", desc := "()I" } : Jvm.MethodName)) ∈ zTB := List.mem_filter.mpr ⟨List.mem_append_right _ (List.mem_append_right _ (List.mem_append_right _ (List.mem_append_right _ (List.mem_append_right _ (List.mem_append_right _ (List.mem_append_right _ (List.mem_append_right _ (List.mem_append_left _ (List.mem_of_getElem? (i := 179) rfl))))))))), rfl⟩
theorem wd_1860 : (Jvm.Cond.instanceMethod ({ cls := "ParlourLeavesModel", name := "undo", desc := "()I" } : Jvm.MethodName)) ∈ zTB := List.mem_filter.mpr ⟨List.mem_append_right _ (List.mem_append_right _ (List.mem_append_right _ (List.mem_append_right _ (List.mem_append_right _ (List.mem_append_right _ (List.mem_append_right _ (List.mem_append_right _ (List.mem_append_left _ (List.mem_of_getElem? (i := 180) rfl))))))))), rfl⟩
theorem wd_1862 : (Jvm.Cond.code ({ cls := "ParlourLeavesModel", name := "undo", desc := "()I" } : Jvm.MethodName) prog_14_method_71_code (2 : Nat) (Option.some Jvm.ClassFile.FieldType.int)) ∈ zTB := List.mem_filter.mpr ⟨List.mem_append_right _ (List.mem_append_right _ (List.mem_append_right _ (List.mem_append_right _ (List.mem_append_right _ (List.mem_append_right _ (List.mem_append_right _ (List.mem_append_right _ (List.mem_append_left _ (List.mem_of_getElem? (i := 182) rfl))))))))), rfl⟩
theorem cv_L_86 : zCV RL RX12 86 yX12_undo cX12_undo 2 (some .int) 0 := ⟨rfl, ⟨by decide, by decide, by decide +kernel⟩, wd_1859, wd_1860, wd_1861, wd_19, wd_1862⟩
theorem dL_law_699 : decode cL_law 699 = .ok (.if_icmp .eq 569, 3) := by decide +kernel
set_option maxHeartbeats 1000000 in
set_option maxRecDepth 100000 in
theorem law_13 {p : Program} {l : Launch} {e : Env} {s : State} {m : MethodId} {below : List Frame} {meth : Method} {c : Code} {D : va_G} {cy : Nat → ClassId} {kK kV q qm : Nat → Nat} {o b L i cells slots : Nat} {xs : Nat → Int32} {Q : State → Prop} (cx : zX RL cL_law 7 p s m #[Value.ref b] c D cy) (hE : zEn kK kV (zAL s) s) (hX : va_X b L xs s s.heap) (hbl : b < s.heap.size) (hL : L ≤ 3072) (hi : i + 6 ≤ L) (hcl : cells + 2 ≤ 601024) (hsl : slots + 68 ≤ 7293034) (hl0 : l.stackTraces = false)
    (KC : ∀ (H : Heap) (locs : List Loc) (ls : Array Slot) (c1 s1 : Nat), zIv D cy s q qm o H locs → lv_has ls 7 [(4, .int (nI i)), (0, .ref b), (1, .ref (q 0)), (2, .ref (qm 0)), (3, .ref o)] → c1 ≤ cells + 2 → s1 ≤ slots + 68 → W p l e room_1 s m #[Value.ref b] below meth c H locs c1 s1 Q (F0 m 1268 ls []))
    {H : Heap} {locs : List Loc} {ls : Array Slot} (hv : zIv D cy s q qm o H locs) (hl : lv_has ls 7 [(4, .int (nI i)), (0, .ref b), (1, .ref (q 0)), (2, .ref (qm 0)), (3, .ref o)]) : W p l e room_1 s m #[Value.ref b] below meth c H locs cells slots Q (F0 m 691 ls []) := by
  have hx := cx.1
  have hb := cx.2.1
  have hbA : ¬ zAL s b := Nat.not_le.mpr hbl
  have hRc : zRc cells slots room_1 := ⟨by show cells + 0 ≤ 601024; omega, by show slots + 0 ≤ 7293034; omega⟩
  obtain ⟨S, T, tx, u, f, r, hu, hse, hw, hS⟩ := hv
  obtain ⟨z, S', T', h1, h2, r2⟩ := ov_undo r 
  refine lv_aload_n (pc := 691) hx hb dL_law_691 rfl (lv_at hl 2 rfl) ?_
  refine zl_C (pc := 692) (As := []) (rest := []) cx cv_L_83 hse (mX11_undo hse.qC h1) ⟨⟨rfl, rfl⟩, Nat.le_of_ble_eq_true rfl, Nat.le_of_ble_eq_true rfl⟩ hRc hS hw hl.1 rfl rfl (Nat.le_of_ble_eq_true rfl) dL_law_692 (fun H locs hS hw => ?_)
  refine lv_aload_n (pc := 695) hx hb dL_law_695 rfl (lv_at hl 3 rfl) ?_
  refine zl_M (pc := 696) (As := []) (rest := [.int z]) cx cv_L_86 hse (mX12_undo hse.qM h2) ⟨⟨rfl, rfl⟩, Nat.le_of_ble_eq_true rfl, Nat.le_of_ble_eq_true rfl⟩ hRc hS hw hl.1 rfl rfl (Nat.le_of_ble_eq_true rfl) dL_law_696 (fun H locs hS hw => ?_)
  refine lv_icmp_eq (pc := 699) (tgt := 1268) hx hb dL_law_699 (by decide) (fun _ => ?_) (fun c0 => absurd rfl c0)
  exact KC _ _ ls _ _ ⟨S', T', tx, u, f, r2, hu, hse, hw, hS⟩ hl (by omega) (by omega)
theorem dL_law_704 : decode cL_law 704 = .ok (.aload_n 1, 1) := by decide +kernel
theorem dL_law_705 : decode cL_law 705 = .ok (.aload_n 0, 1) := by decide +kernel
theorem dL_law_706 : decode cL_law 706 = .ok (.iload 4, 2) := by decide +kernel
theorem dL_law_708 : decode cL_law 708 = .ok (.iconst 1, 1) := by decide +kernel
theorem dL_law_709 : decode cL_law 709 = .ok (.iadd, 1) := by decide +kernel
theorem dL_law_710 : decode cL_law 710 = .ok (.iaload, 1) := by decide +kernel
theorem dL_law_711 : decode cL_law 711 = .ok (.aload_n 0, 1) := by decide +kernel
theorem dL_law_712 : decode cL_law 712 = .ok (.iload 4, 2) := by decide +kernel
theorem dL_law_714 : decode cL_law 714 = .ok (.iconst 2, 1) := by decide +kernel
theorem dL_law_715 : decode cL_law 715 = .ok (.iadd, 1) := by decide +kernel
theorem dL_law_716 : decode cL_law 716 = .ok (.iaload, 1) := by decide +kernel
theorem dL_law_717 : decode cL_law 717 = .ok (.invokevirtual 87, 3) := by decide +kernel
theorem wd_858 : (Jvm.Cond.selects "ParlourLeaves" ({ cls := "ParlourLeaves", name := "guilty", desc := "(II)I" } : Jvm.MethodName) ({ cls := "ParlourLeaves", name := "guilty", desc := "(II)I" } : Jvm.MethodName)) ∈ zTB := List.mem_filter.mpr ⟨List.mem_append_right _ (List.mem_append_right _ (List.mem_append_right _ (List.mem_append_right _ (List.mem_append_left _ (List.mem_of_getElem? (i := 138) rfl))))), rfl⟩
theorem wd_856 : (Jvm.Cond.methodLink "ParlourLeavesLaw" (87 : Nat) ({ cls := "ParlourLeaves", name := "guilty", desc := "(II)I" } : Jvm.MethodName)) ∈ zTB := List.mem_filter.mpr ⟨List.mem_append_right _ (List.mem_append_right _ (List.mem_append_right _ (List.mem_append_right _ (List.mem_append_left _ (List.mem_of_getElem? (i := 136) rfl))))), rfl⟩
theorem wd_857 : (Jvm.Cond.instanceMethod ({ cls := "ParlourLeaves", name := "guilty", desc := "(II)I" } : Jvm.MethodName)) ∈ zTB := List.mem_filter.mpr ⟨List.mem_append_right _ (List.mem_append_right _ (List.mem_append_right _ (List.mem_append_right _ (List.mem_append_left _ (List.mem_of_getElem? (i := 137) rfl))))), rfl⟩
theorem wd_859 : (Jvm.Cond.code ({ cls := "ParlourLeaves", name := "guilty", desc := "(II)I" } : Jvm.MethodName) prog_1_method_16_code (3 : Nat) (Option.some Jvm.ClassFile.FieldType.int)) ∈ zTB := List.mem_filter.mpr ⟨List.mem_append_right _ (List.mem_append_right _ (List.mem_append_right _ (List.mem_append_right _ (List.mem_append_left _ (List.mem_of_getElem? (i := 139) rfl))))), rfl⟩
theorem cv_L_87 : zCV RL RX11 87 yX11_guilty cX11_guilty 3 (some .int) 2 := ⟨rfl, ⟨by decide, by decide, by decide +kernel⟩, wd_856, wd_857, wd_858, wd_1, wd_859⟩
theorem dL_law_720 : decode cL_law 720 = .ok (.aload_n 2, 1) := by decide +kernel
theorem dL_law_721 : decode cL_law 721 = .ok (.aload_n 0, 1) := by decide +kernel
theorem dL_law_722 : decode cL_law 722 = .ok (.iload 4, 2) := by decide +kernel
theorem dL_law_724 : decode cL_law 724 = .ok (.iconst 1, 1) := by decide +kernel
theorem dL_law_725 : decode cL_law 725 = .ok (.iadd, 1) := by decide +kernel
theorem dL_law_726 : decode cL_law 726 = .ok (.iaload, 1) := by decide +kernel
theorem dL_law_727 : decode cL_law 727 = .ok (.aload_n 0, 1) := by decide +kernel
theorem dL_law_728 : decode cL_law 728 = .ok (.iload 4, 2) := by decide +kernel
theorem dL_law_730 : decode cL_law 730 = .ok (.iconst 2, 1) := by decide +kernel
theorem dL_law_731 : decode cL_law 731 = .ok (.iadd, 1) := by decide +kernel
theorem dL_law_732 : decode cL_law 732 = .ok (.iaload, 1) := by decide +kernel
theorem dL_law_733 : decode cL_law 733 = .ok (.invokevirtual 90, 3) := by decide +kernel
theorem wd_1880 : (Jvm.Cond.selects "ParlourLeavesModel" ({ cls := "ParlourLeavesModel", name := "guilty", desc := "(II)I" } : Jvm.MethodName) ({ cls := "ParlourLeavesModel", name := "guilty", desc := "(II)I" } : Jvm.MethodName)) ∈ zTB := List.mem_filter.mpr ⟨List.mem_append_right _ (List.mem_append_right _ (List.mem_append_right _ (List.mem_append_right _ (List.mem_append_right _ (List.mem_append_right _ (List.mem_append_right _ (List.mem_append_right _ (List.mem_append_left _ (List.mem_of_getElem? (i := 200) rfl))))))))), rfl⟩
theorem wd_1878 : (Jvm.Cond.methodLink "ParlourLeavesLaw" (90 : Nat) ({ cls := "ParlourLeavesModel", name := "guilty", desc := "(II)I" } : Jvm.MethodName)) ∈ zTB := List.mem_filter.mpr ⟨List.mem_append_right _ (List.mem_append_right _ (List.mem_append_right _ (List.mem_append_right _ (List.mem_append_right _ (List.mem_append_right _ (List.mem_append_right _ (List.mem_append_right _ (List.mem_append_left _ (List.mem_of_getElem? (i := 198) rfl))))))))), rfl⟩
theorem wd_1879 : (Jvm.Cond.instanceMethod ({ cls := "ParlourLeavesModel", name := "guilty", desc := "(II)I" } : Jvm.MethodName)) ∈ zTB := List.mem_filter.mpr ⟨List.mem_append_right _ (List.mem_append_right _ (List.mem_append_right _ (List.mem_append_right _ (List.mem_append_right _ (List.mem_append_right _ (List.mem_append_right _ (List.mem_append_right _ (List.mem_append_left _ (List.mem_of_getElem? (i := 199) rfl))))))))), rfl⟩
theorem wd_1881 : (Jvm.Cond.code ({ cls := "ParlourLeavesModel", name := "guilty", desc := "(II)I" } : Jvm.MethodName) prog_14_method_75_code (4 : Nat) (Option.some Jvm.ClassFile.FieldType.int)) ∈ zTB := List.mem_filter.mpr ⟨List.mem_append_right _ (List.mem_append_right _ (List.mem_append_right _ (List.mem_append_right _ (List.mem_append_right _ (List.mem_append_right _ (List.mem_append_right _ (List.mem_append_right _ (List.mem_append_left _ (List.mem_of_getElem? (i := 201) rfl))))))))), rfl⟩
theorem cv_L_90 : zCV RL RX12 90 yX12_guilty cX12_guilty 4 (some .int) 2 := ⟨rfl, ⟨by decide, by decide, by decide +kernel⟩, wd_1878, wd_1879, wd_1880, wd_19, wd_1881⟩
theorem dL_law_736 : decode cL_law 736 = .ok (.if_icmp .eq 532, 3) := by decide +kernel
set_option maxHeartbeats 1000000 in
set_option maxRecDepth 100000 in
theorem law_14 {p : Program} {l : Launch} {e : Env} {s : State} {m : MethodId} {below : List Frame} {meth : Method} {c : Code} {D : va_G} {cy : Nat → ClassId} {kK kV q qm : Nat → Nat} {o b L i cells slots : Nat} {xs : Nat → Int32} {Q : State → Prop} (cx : zX RL cL_law 7 p s m #[Value.ref b] c D cy) (hE : zEn kK kV (zAL s) s) (hX : va_X b L xs s s.heap) (hbl : b < s.heap.size) (hL : L ≤ 3072) (hi : i + 6 ≤ L) (hcl : cells + 2 ≤ 601024) (hsl : slots + 68 ≤ 7293034) (hl0 : l.stackTraces = false)
    (KC : ∀ (H : Heap) (locs : List Loc) (ls : Array Slot) (c1 s1 : Nat), zIv D cy s q qm o H locs → lv_has ls 7 [(4, .int (nI i)), (0, .ref b), (1, .ref (q 0)), (2, .ref (qm 0)), (3, .ref o)] → c1 ≤ cells + 2 → s1 ≤ slots + 68 → W p l e room_1 s m #[Value.ref b] below meth c H locs c1 s1 Q (F0 m 1268 ls []))
    {H : Heap} {locs : List Loc} {ls : Array Slot} (hv : zIv D cy s q qm o H locs) (hl : lv_has ls 7 [(4, .int (nI i)), (0, .ref b), (1, .ref (q 0)), (2, .ref (qm 0)), (3, .ref o)]) : W p l e room_1 s m #[Value.ref b] below meth c H locs cells slots Q (F0 m 704 ls []) := by
  have hx := cx.1
  have hb := cx.2.1
  have hbA : ¬ zAL s b := Nat.not_le.mpr hbl
  have hRc : zRc cells slots room_1 := ⟨by show cells + 0 ≤ 601024; omega, by show slots + 0 ≤ 7293034; omega⟩
  have in1 : vp_in (nI i + (1 : Int32)) L := zl_in (j := 1) hi hL (by decide)
  have in2 : vp_in (nI i + (2 : Int32)) L := zl_in (j := 2) hi hL (by decide)
  obtain ⟨S, T, tx, u, f, r, hu, hse, hw, hS⟩ := hv
  obtain ⟨z, T', h1, h2, r2⟩ := ov_guilty r (xs (nI i + (1 : Int32)).toNatClampNeg) (xs (nI i + (2 : Int32)).toNatClampNeg)
  refine lv_aload_n (pc := 704) hx hb dL_law_704 rfl (lv_at hl 2 rfl) ?_
  refine lv_aload_n (pc := 705) hx hb dL_law_705 rfl (lv_at hl 1 rfl) ?_
  refine lv_iload (pc := 706) hx hb dL_law_706 (lv_at hl 0 rfl) ?_
  refine lv_iconst (pc := 708) hx hb dL_law_708 zc_1 ?_
  refine lv_iadd (pc := 709) hx hb dL_law_709 ?_
  refine va_sld (pc := 710) hx hb hX hbl hbA hS in1 dL_law_710 ?_
  refine lv_aload_n (pc := 711) hx hb dL_law_711 rfl (lv_at hl 1 rfl) ?_
  refine lv_iload (pc := 712) hx hb dL_law_712 (lv_at hl 0 rfl) ?_
  refine lv_iconst (pc := 714) hx hb dL_law_714 zc_2 ?_
  refine lv_iadd (pc := 715) hx hb dL_law_715 ?_
  refine va_sld (pc := 716) hx hb hX hbl hbA hS in2 dL_law_716 ?_
  refine zr_VI (pc := 717) (As := [.int (xs (nI i + (1 : Int32)).toNatClampNeg), .int (xs (nI i + (2 : Int32)).toNatClampNeg)]) (rest := []) cx cv_L_87 (mX11_guilty h1) ⟨⟨rfl, rfl⟩, Nat.le_of_ble_eq_true rfl, Nat.le_of_ble_eq_true rfl⟩ hRc hw.1 nC_0 sC_0 rfl hl.1 rfl rfl (Nat.le_of_ble_eq_true rfl) dL_law_717 ?_
  refine lv_aload_n (pc := 720) hx hb dL_law_720 rfl (lv_at hl 3 rfl) ?_
  refine lv_aload_n (pc := 721) hx hb dL_law_721 rfl (lv_at hl 1 rfl) ?_
  refine lv_iload (pc := 722) hx hb dL_law_722 (lv_at hl 0 rfl) ?_
  refine lv_iconst (pc := 724) hx hb dL_law_724 zc_1 ?_
  refine lv_iadd (pc := 725) hx hb dL_law_725 ?_
  refine va_sld (pc := 726) hx hb hX hbl hbA hS in1 dL_law_726 ?_
  refine lv_aload_n (pc := 727) hx hb dL_law_727 rfl (lv_at hl 1 rfl) ?_
  refine lv_iload (pc := 728) hx hb dL_law_728 (lv_at hl 0 rfl) ?_
  refine lv_iconst (pc := 730) hx hb dL_law_730 zc_2 ?_
  refine lv_iadd (pc := 731) hx hb dL_law_731 ?_
  refine va_sld (pc := 732) hx hb hX hbl hbA hS in2 dL_law_732 ?_
  refine zl_M (pc := 733) (As := [.int (xs (nI i + (1 : Int32)).toNatClampNeg), .int (xs (nI i + (2 : Int32)).toNatClampNeg)]) (rest := [.int z]) cx cv_L_90 hse (mX12_guilty hse.qM h2) ⟨⟨rfl, rfl⟩, Nat.le_of_ble_eq_true rfl, Nat.le_of_ble_eq_true rfl⟩ hRc hS hw hl.1 rfl rfl (Nat.le_of_ble_eq_true rfl) dL_law_733 (fun H locs hS hw => ?_)
  refine lv_icmp_eq (pc := 736) (tgt := 1268) hx hb dL_law_736 (by decide) (fun _ => ?_) (fun c0 => absurd rfl c0)
  exact KC _ _ ls _ _ ⟨S, T', tx, u, f, r2, hu, hse, hw, hS⟩ hl (by omega) (by omega)
theorem dL_law_741 : decode cL_law 741 = .ok (.aload_n 1, 1) := by decide +kernel
theorem dL_law_742 : decode cL_law 742 = .ok (.aload_n 0, 1) := by decide +kernel
theorem dL_law_743 : decode cL_law 743 = .ok (.iload 4, 2) := by decide +kernel
theorem dL_law_745 : decode cL_law 745 = .ok (.iconst 1, 1) := by decide +kernel
theorem dL_law_746 : decode cL_law 746 = .ok (.iadd, 1) := by decide +kernel
theorem dL_law_747 : decode cL_law 747 = .ok (.iaload, 1) := by decide +kernel
theorem dL_law_748 : decode cL_law 748 = .ok (.invokevirtual 91, 3) := by decide +kernel
theorem wd_870 : (Jvm.Cond.selects "ParlourLeaves" ({ cls := "ParlourLeaves", name := "proves", desc := "(I)I" } : Jvm.MethodName) ({ cls := "ParlourLeaves", name := "proves", desc := "(I)I" } : Jvm.MethodName)) ∈ zTB := List.mem_filter.mpr ⟨List.mem_append_right _ (List.mem_append_right _ (List.mem_append_right _ (List.mem_append_right _ (List.mem_append_left _ (List.mem_of_getElem? (i := 150) rfl))))), rfl⟩
theorem wd_868 : (Jvm.Cond.methodLink "ParlourLeavesLaw" (91 : Nat) ({ cls := "ParlourLeaves", name := "proves", desc := "(I)I" } : Jvm.MethodName)) ∈ zTB := List.mem_filter.mpr ⟨List.mem_append_right _ (List.mem_append_right _ (List.mem_append_right _ (List.mem_append_right _ (List.mem_append_left _ (List.mem_of_getElem? (i := 148) rfl))))), rfl⟩
theorem wd_869 : (Jvm.Cond.instanceMethod ({ cls := "ParlourLeaves", name := "proves", desc := "(I)I" } : Jvm.MethodName)) ∈ zTB := List.mem_filter.mpr ⟨List.mem_append_right _ (List.mem_append_right _ (List.mem_append_right _ (List.mem_append_right _ (List.mem_append_left _ (List.mem_of_getElem? (i := 149) rfl))))), rfl⟩
theorem wd_871 : (Jvm.Cond.code ({ cls := "ParlourLeaves", name := "proves", desc := "(I)I" } : Jvm.MethodName) prog_1_method_17_code (2 : Nat) (Option.some Jvm.ClassFile.FieldType.int)) ∈ zTB := List.mem_filter.mpr ⟨List.mem_append_right _ (List.mem_append_right _ (List.mem_append_right _ (List.mem_append_right _ (List.mem_append_left _ (List.mem_of_getElem? (i := 151) rfl))))), rfl⟩
theorem cv_L_91 : zCV RL RX11 91 yX11_proves cX11_proves 2 (some .int) 1 := ⟨rfl, ⟨by decide, by decide, by decide +kernel⟩, wd_868, wd_869, wd_870, wd_1, wd_871⟩
theorem dL_law_751 : decode cL_law 751 = .ok (.aload_n 2, 1) := by decide +kernel
theorem dL_law_752 : decode cL_law 752 = .ok (.aload_n 0, 1) := by decide +kernel
theorem dL_law_753 : decode cL_law 753 = .ok (.iload 4, 2) := by decide +kernel
theorem dL_law_755 : decode cL_law 755 = .ok (.iconst 1, 1) := by decide +kernel
theorem dL_law_756 : decode cL_law 756 = .ok (.iadd, 1) := by decide +kernel
theorem dL_law_757 : decode cL_law 757 = .ok (.iaload, 1) := by decide +kernel
theorem dL_law_758 : decode cL_law 758 = .ok (.invokevirtual 94, 3) := by decide +kernel
theorem wd_1884 : (Jvm.Cond.selects "ParlourLeavesModel" ({ cls := "ParlourLeavesModel", name := "proves", desc := "(I)I" } : Jvm.MethodName) ({ cls := "ParlourLeavesModel", name := "proves", desc := "(I)I" } : Jvm.MethodName)) ∈ zTB := List.mem_filter.mpr ⟨List.mem_append_right _ (List.mem_append_right _ (List.mem_append_right _ (List.mem_append_right _ (List.mem_append_right _ (List.mem_append_right _ (List.mem_append_right _ (List.mem_append_right _ (List.mem_append_left _ (List.mem_of_getElem? (i := 204) rfl))))))))), rfl⟩
theorem wd_1882 : (Jvm.Cond.methodLink "ParlourLeavesLaw" (94 : Nat) ({ cls := "ParlourLeavesModel", name := "proves", desc := "(I)I" } : Jvm.MethodName)) ∈ zTB := List.mem_filter.mpr ⟨List.mem_append_right _ (List.mem_append_right _ (List.mem_append_right _ (List.mem_append_right _ (List.mem_append_right _ (List.mem_append_right _ (List.mem_append_right _ (List.mem_append_right _ (List.mem_append_left _ (List.mem_of_getElem? (i := 202) rfl))))))))), rfl⟩
theorem wd_1883 : (Jvm.Cond.instanceMethod ({ cls := "ParlourLeavesModel", name := "proves", desc := "(I)I" } : Jvm.MethodName)) ∈ zTB := List.mem_filter.mpr ⟨List.mem_append_right _ (List.mem_append_right _ (List.mem_append_right _ (List.mem_append_right _ (List.mem_append_right _ (List.mem_append_right _ (List.mem_append_right _ (List.mem_append_right _ (List.mem_append_left _ (List.mem_of_getElem? (i := 203) rfl))))))))), rfl⟩
theorem wd_1885 : (Jvm.Cond.code ({ cls := "ParlourLeavesModel", name := "proves", desc := "(I)I" } : Jvm.MethodName) prog_14_method_76_code (7 : Nat) (Option.some Jvm.ClassFile.FieldType.int)) ∈ zTB := List.mem_filter.mpr ⟨List.mem_append_right _ (List.mem_append_right _ (List.mem_append_right _ (List.mem_append_right _ (List.mem_append_right _ (List.mem_append_right _ (List.mem_append_right _ (List.mem_append_right _ (List.mem_append_left _ (List.mem_of_getElem? (i := 205) rfl))))))))), rfl⟩
theorem cv_L_94 : zCV RL RX12 94 yX12_proves cX12_proves 7 (some .int) 1 := ⟨rfl, ⟨by decide, by decide, by decide +kernel⟩, wd_1882, wd_1883, wd_1884, wd_19, wd_1885⟩
theorem dL_law_761 : decode cL_law 761 = .ok (.if_icmp .eq 507, 3) := by decide +kernel
set_option maxHeartbeats 1000000 in
set_option maxRecDepth 100000 in
theorem law_15 {p : Program} {l : Launch} {e : Env} {s : State} {m : MethodId} {below : List Frame} {meth : Method} {c : Code} {D : va_G} {cy : Nat → ClassId} {kK kV q qm : Nat → Nat} {o b L i cells slots : Nat} {xs : Nat → Int32} {Q : State → Prop} (cx : zX RL cL_law 7 p s m #[Value.ref b] c D cy) (hE : zEn kK kV (zAL s) s) (hX : va_X b L xs s s.heap) (hbl : b < s.heap.size) (hL : L ≤ 3072) (hi : i + 6 ≤ L) (hcl : cells + 2 ≤ 601024) (hsl : slots + 68 ≤ 7293034) (hl0 : l.stackTraces = false)
    (KC : ∀ (H : Heap) (locs : List Loc) (ls : Array Slot) (c1 s1 : Nat), zIv D cy s q qm o H locs → lv_has ls 7 [(4, .int (nI i)), (0, .ref b), (1, .ref (q 0)), (2, .ref (qm 0)), (3, .ref o)] → c1 ≤ cells + 2 → s1 ≤ slots + 68 → W p l e room_1 s m #[Value.ref b] below meth c H locs c1 s1 Q (F0 m 1268 ls []))
    {H : Heap} {locs : List Loc} {ls : Array Slot} (hv : zIv D cy s q qm o H locs) (hl : lv_has ls 7 [(4, .int (nI i)), (0, .ref b), (1, .ref (q 0)), (2, .ref (qm 0)), (3, .ref o)]) : W p l e room_1 s m #[Value.ref b] below meth c H locs cells slots Q (F0 m 741 ls []) := by
  have hx := cx.1
  have hb := cx.2.1
  have hbA : ¬ zAL s b := Nat.not_le.mpr hbl
  have hRc : zRc cells slots room_1 := ⟨by show cells + 0 ≤ 601024; omega, by show slots + 0 ≤ 7293034; omega⟩
  have in1 : vp_in (nI i + (1 : Int32)) L := zl_in (j := 1) hi hL (by decide)
  obtain ⟨S, T, tx, u, f, r, hu, hse, hw, hS⟩ := hv
  obtain ⟨z, T', h1, h2, r2⟩ := ov_proves r (xs (nI i + (1 : Int32)).toNatClampNeg)
  refine lv_aload_n (pc := 741) hx hb dL_law_741 rfl (lv_at hl 2 rfl) ?_
  refine lv_aload_n (pc := 742) hx hb dL_law_742 rfl (lv_at hl 1 rfl) ?_
  refine lv_iload (pc := 743) hx hb dL_law_743 (lv_at hl 0 rfl) ?_
  refine lv_iconst (pc := 745) hx hb dL_law_745 zc_1 ?_
  refine lv_iadd (pc := 746) hx hb dL_law_746 ?_
  refine va_sld (pc := 747) hx hb hX hbl hbA hS in1 dL_law_747 ?_
  refine zr_VI (pc := 748) (As := [.int (xs (nI i + (1 : Int32)).toNatClampNeg)]) (rest := []) cx cv_L_91 (mX11_proves h1) ⟨⟨rfl, rfl⟩, Nat.le_of_ble_eq_true rfl, Nat.le_of_ble_eq_true rfl⟩ hRc hw.1 nC_0 sC_0 rfl hl.1 rfl rfl (Nat.le_of_ble_eq_true rfl) dL_law_748 ?_
  refine lv_aload_n (pc := 751) hx hb dL_law_751 rfl (lv_at hl 3 rfl) ?_
  refine lv_aload_n (pc := 752) hx hb dL_law_752 rfl (lv_at hl 1 rfl) ?_
  refine lv_iload (pc := 753) hx hb dL_law_753 (lv_at hl 0 rfl) ?_
  refine lv_iconst (pc := 755) hx hb dL_law_755 zc_1 ?_
  refine lv_iadd (pc := 756) hx hb dL_law_756 ?_
  refine va_sld (pc := 757) hx hb hX hbl hbA hS in1 dL_law_757 ?_
  refine zl_M (pc := 758) (As := [.int (xs (nI i + (1 : Int32)).toNatClampNeg)]) (rest := [.int z]) cx cv_L_94 hse (mX12_proves hse.qM h2) ⟨⟨rfl, rfl⟩, Nat.le_of_ble_eq_true rfl, Nat.le_of_ble_eq_true rfl⟩ hRc hS hw hl.1 rfl rfl (Nat.le_of_ble_eq_true rfl) dL_law_758 (fun H locs hS hw => ?_)
  refine lv_icmp_eq (pc := 761) (tgt := 1268) hx hb dL_law_761 (by decide) (fun _ => ?_) (fun c0 => absurd rfl c0)
  exact KC _ _ ls _ _ ⟨S, T', tx, u, f, r2, hu, hse, hw, hS⟩ hl (by omega) (by omega)
theorem dL_law_766 : decode cL_law 766 = .ok (.aload_n 1, 1) := by decide +kernel
theorem dL_law_767 : decode cL_law 767 = .ok (.aload_n 0, 1) := by decide +kernel
theorem dL_law_768 : decode cL_law 768 = .ok (.iload 4, 2) := by decide +kernel
theorem dL_law_770 : decode cL_law 770 = .ok (.iconst 1, 1) := by decide +kernel
theorem dL_law_771 : decode cL_law 771 = .ok (.iadd, 1) := by decide +kernel
theorem dL_law_772 : decode cL_law 772 = .ok (.iaload, 1) := by decide +kernel
theorem dL_law_773 : decode cL_law 773 = .ok (.invokevirtual 95, 3) := by decide +kernel
theorem wd_881 : (Jvm.Cond.selects "ParlourLeaves" ({ cls := "ParlourLeaves", name := "hides", desc := "(I)I" } : Jvm.MethodName) ({ cls := "ParlourLeaves", name := "hides", desc := "(I)I" } : Jvm.MethodName)) ∈ zTB := List.mem_filter.mpr ⟨List.mem_append_right _ (List.mem_append_right _ (List.mem_append_right _ (List.mem_append_right _ (List.mem_append_left _ (List.mem_of_getElem? (i := 161) rfl))))), rfl⟩
theorem wd_879 : (Jvm.Cond.methodLink "ParlourLeavesLaw" (95 : Nat) ({ cls := "ParlourLeaves", name := "hides", desc := "(I)I" } : Jvm.MethodName)) ∈ zTB := List.mem_filter.mpr ⟨List.mem_append_right _ (List.mem_append_right _ (List.mem_append_right _ (List.mem_append_right _ (List.mem_append_left _ (List.mem_of_getElem? (i := 159) rfl))))), rfl⟩
theorem wd_880 : (Jvm.Cond.instanceMethod ({ cls := "ParlourLeaves", name := "hides", desc := "(I)I" } : Jvm.MethodName)) ∈ zTB := List.mem_filter.mpr ⟨List.mem_append_right _ (List.mem_append_right _ (List.mem_append_right _ (List.mem_append_right _ (List.mem_append_left _ (List.mem_of_getElem? (i := 160) rfl))))), rfl⟩
theorem wd_882 : (Jvm.Cond.code ({ cls := "ParlourLeaves", name := "hides", desc := "(I)I" } : Jvm.MethodName) prog_1_method_18_code (2 : Nat) (Option.some Jvm.ClassFile.FieldType.int)) ∈ zTB := List.mem_filter.mpr ⟨List.mem_append_right _ (List.mem_append_right _ (List.mem_append_right _ (List.mem_append_right _ (List.mem_append_left _ (List.mem_of_getElem? (i := 162) rfl))))), rfl⟩
theorem cv_L_95 : zCV RL RX11 95 yX11_hides cX11_hides 2 (some .int) 1 := ⟨rfl, ⟨by decide, by decide, by decide +kernel⟩, wd_879, wd_880, wd_881, wd_1, wd_882⟩
theorem dL_law_776 : decode cL_law 776 = .ok (.aload_n 2, 1) := by decide +kernel
theorem dL_law_777 : decode cL_law 777 = .ok (.aload_n 0, 1) := by decide +kernel
theorem dL_law_778 : decode cL_law 778 = .ok (.iload 4, 2) := by decide +kernel
theorem dL_law_780 : decode cL_law 780 = .ok (.iconst 1, 1) := by decide +kernel
theorem dL_law_781 : decode cL_law 781 = .ok (.iadd, 1) := by decide +kernel
theorem dL_law_782 : decode cL_law 782 = .ok (.iaload, 1) := by decide +kernel
theorem dL_law_783 : decode cL_law 783 = .ok (.invokevirtual 98, 3) := by decide +kernel
theorem wd_1888 : (Jvm.Cond.selects "ParlourLeavesModel" ({ cls := "ParlourLeavesModel", name := "hides", desc := "(I)I" } : Jvm.MethodName) ({ cls := "ParlourLeavesModel", name := "hides", desc := "(I)I" } : Jvm.MethodName)) ∈ zTB := List.mem_filter.mpr ⟨List.mem_append_right _ (List.mem_append_right _ (List.mem_append_right _ (List.mem_append_right _ (List.mem_append_right _ (List.mem_append_right _ (List.mem_append_right _ (List.mem_append_right _ (List.mem_append_left _ (List.mem_of_getElem? (i := 208) rfl))))))))), rfl⟩
theorem wd_1886 : (Jvm.Cond.methodLink "ParlourLeavesLaw" (98 : Nat) ({ cls := "ParlourLeavesModel", name := "hides", desc := "(I)I" } : Jvm.MethodName)) ∈ zTB := List.mem_filter.mpr ⟨List.mem_append_right _ (List.mem_append_right _ (List.mem_append_right _ (List.mem_append_right _ (List.mem_append_right _ (List.mem_append_right _ (List.mem_append_right _ (List.mem_append_right _ (List.mem_append_left _ (List.mem_of_getElem? (i := 206) rfl))))))))), rfl⟩
theorem wd_1887 : (Jvm.Cond.instanceMethod ({ cls := "ParlourLeavesModel", name := "hides", desc := "(I)I" } : Jvm.MethodName)) ∈ zTB := List.mem_filter.mpr ⟨List.mem_append_right _ (List.mem_append_right _ (List.mem_append_right _ (List.mem_append_right _ (List.mem_append_right _ (List.mem_append_right _ (List.mem_append_right _ (List.mem_append_right _ (List.mem_append_left _ (List.mem_of_getElem? (i := 207) rfl))))))))), rfl⟩
theorem wd_1889 : (Jvm.Cond.code ({ cls := "ParlourLeavesModel", name := "hides", desc := "(I)I" } : Jvm.MethodName) prog_14_method_77_code (4 : Nat) (Option.some Jvm.ClassFile.FieldType.int)) ∈ zTB := List.mem_filter.mpr ⟨List.mem_append_right _ (List.mem_append_right _ (List.mem_append_right _ (List.mem_append_right _ (List.mem_append_right _ (List.mem_append_right _ (List.mem_append_right _ (List.mem_append_right _ (List.mem_append_left _ (List.mem_of_getElem? (i := 209) rfl))))))))), rfl⟩
theorem cv_L_98 : zCV RL RX12 98 yX12_hides cX12_hides 4 (some .int) 1 := ⟨rfl, ⟨by decide, by decide, by decide +kernel⟩, wd_1886, wd_1887, wd_1888, wd_19, wd_1889⟩
theorem dL_law_786 : decode cL_law 786 = .ok (.if_icmp .eq 482, 3) := by decide +kernel
set_option maxHeartbeats 1000000 in
set_option maxRecDepth 100000 in
theorem law_16 {p : Program} {l : Launch} {e : Env} {s : State} {m : MethodId} {below : List Frame} {meth : Method} {c : Code} {D : va_G} {cy : Nat → ClassId} {kK kV q qm : Nat → Nat} {o b L i cells slots : Nat} {xs : Nat → Int32} {Q : State → Prop} (cx : zX RL cL_law 7 p s m #[Value.ref b] c D cy) (hE : zEn kK kV (zAL s) s) (hX : va_X b L xs s s.heap) (hbl : b < s.heap.size) (hL : L ≤ 3072) (hi : i + 6 ≤ L) (hcl : cells + 2 ≤ 601024) (hsl : slots + 68 ≤ 7293034) (hl0 : l.stackTraces = false)
    (KC : ∀ (H : Heap) (locs : List Loc) (ls : Array Slot) (c1 s1 : Nat), zIv D cy s q qm o H locs → lv_has ls 7 [(4, .int (nI i)), (0, .ref b), (1, .ref (q 0)), (2, .ref (qm 0)), (3, .ref o)] → c1 ≤ cells + 2 → s1 ≤ slots + 68 → W p l e room_1 s m #[Value.ref b] below meth c H locs c1 s1 Q (F0 m 1268 ls []))
    {H : Heap} {locs : List Loc} {ls : Array Slot} (hv : zIv D cy s q qm o H locs) (hl : lv_has ls 7 [(4, .int (nI i)), (0, .ref b), (1, .ref (q 0)), (2, .ref (qm 0)), (3, .ref o)]) : W p l e room_1 s m #[Value.ref b] below meth c H locs cells slots Q (F0 m 766 ls []) := by
  have hx := cx.1
  have hb := cx.2.1
  have hbA : ¬ zAL s b := Nat.not_le.mpr hbl
  have hRc : zRc cells slots room_1 := ⟨by show cells + 0 ≤ 601024; omega, by show slots + 0 ≤ 7293034; omega⟩
  have in1 : vp_in (nI i + (1 : Int32)) L := zl_in (j := 1) hi hL (by decide)
  obtain ⟨S, T, tx, u, f, r, hu, hse, hw, hS⟩ := hv
  obtain ⟨z, T', h1, h2, r2⟩ := ov_hides r (xs (nI i + (1 : Int32)).toNatClampNeg)
  refine lv_aload_n (pc := 766) hx hb dL_law_766 rfl (lv_at hl 2 rfl) ?_
  refine lv_aload_n (pc := 767) hx hb dL_law_767 rfl (lv_at hl 1 rfl) ?_
  refine lv_iload (pc := 768) hx hb dL_law_768 (lv_at hl 0 rfl) ?_
  refine lv_iconst (pc := 770) hx hb dL_law_770 zc_1 ?_
  refine lv_iadd (pc := 771) hx hb dL_law_771 ?_
  refine va_sld (pc := 772) hx hb hX hbl hbA hS in1 dL_law_772 ?_
  refine zr_VI (pc := 773) (As := [.int (xs (nI i + (1 : Int32)).toNatClampNeg)]) (rest := []) cx cv_L_95 (mX11_hides h1) ⟨⟨rfl, rfl⟩, Nat.le_of_ble_eq_true rfl, Nat.le_of_ble_eq_true rfl⟩ hRc hw.1 nC_0 sC_0 rfl hl.1 rfl rfl (Nat.le_of_ble_eq_true rfl) dL_law_773 ?_
  refine lv_aload_n (pc := 776) hx hb dL_law_776 rfl (lv_at hl 3 rfl) ?_
  refine lv_aload_n (pc := 777) hx hb dL_law_777 rfl (lv_at hl 1 rfl) ?_
  refine lv_iload (pc := 778) hx hb dL_law_778 (lv_at hl 0 rfl) ?_
  refine lv_iconst (pc := 780) hx hb dL_law_780 zc_1 ?_
  refine lv_iadd (pc := 781) hx hb dL_law_781 ?_
  refine va_sld (pc := 782) hx hb hX hbl hbA hS in1 dL_law_782 ?_
  refine zl_M (pc := 783) (As := [.int (xs (nI i + (1 : Int32)).toNatClampNeg)]) (rest := [.int z]) cx cv_L_98 hse (mX12_hides hse.qM h2) ⟨⟨rfl, rfl⟩, Nat.le_of_ble_eq_true rfl, Nat.le_of_ble_eq_true rfl⟩ hRc hS hw hl.1 rfl rfl (Nat.le_of_ble_eq_true rfl) dL_law_783 (fun H locs hS hw => ?_)
  refine lv_icmp_eq (pc := 786) (tgt := 1268) hx hb dL_law_786 (by decide) (fun _ => ?_) (fun c0 => absurd rfl c0)
  exact KC _ _ ls _ _ ⟨S, T', tx, u, f, r2, hu, hse, hw, hS⟩ hl (by omega) (by omega)
theorem dL_law_791 : decode cL_law 791 = .ok (.aload_n 1, 1) := by decide +kernel
theorem dL_law_792 : decode cL_law 792 = .ok (.aload_n 0, 1) := by decide +kernel
theorem dL_law_793 : decode cL_law 793 = .ok (.iload 4, 2) := by decide +kernel
theorem dL_law_795 : decode cL_law 795 = .ok (.iconst 1, 1) := by decide +kernel
theorem dL_law_796 : decode cL_law 796 = .ok (.iadd, 1) := by decide +kernel
theorem dL_law_797 : decode cL_law 797 = .ok (.iaload, 1) := by decide +kernel
theorem dL_law_798 : decode cL_law 798 = .ok (.invokevirtual 99, 3) := by decide +kernel
theorem wd_892 : (Jvm.Cond.selects "ParlourLeaves" ({ cls := "ParlourLeaves", name := "dark", desc := "(I)I" } : Jvm.MethodName) ({ cls := "ParlourLeaves", name := "dark", desc := "(I)I" } : Jvm.MethodName)) ∈ zTB := List.mem_filter.mpr ⟨List.mem_append_right _ (List.mem_append_right _ (List.mem_append_right _ (List.mem_append_right _ (List.mem_append_left _ (List.mem_of_getElem? (i := 172) rfl))))), rfl⟩
theorem wd_890 : (Jvm.Cond.methodLink "ParlourLeavesLaw" (99 : Nat) ({ cls := "ParlourLeaves", name := "dark", desc := "(I)I" } : Jvm.MethodName)) ∈ zTB := List.mem_filter.mpr ⟨List.mem_append_right _ (List.mem_append_right _ (List.mem_append_right _ (List.mem_append_right _ (List.mem_append_left _ (List.mem_of_getElem? (i := 170) rfl))))), rfl⟩
theorem wd_891 : (Jvm.Cond.instanceMethod ({ cls := "ParlourLeaves", name := "dark", desc := "(I)I" } : Jvm.MethodName)) ∈ zTB := List.mem_filter.mpr ⟨List.mem_append_right _ (List.mem_append_right _ (List.mem_append_right _ (List.mem_append_right _ (List.mem_append_left _ (List.mem_of_getElem? (i := 171) rfl))))), rfl⟩
theorem wd_893 : (Jvm.Cond.code ({ cls := "ParlourLeaves", name := "dark", desc := "(I)I" } : Jvm.MethodName) prog_1_method_19_code (2 : Nat) (Option.some Jvm.ClassFile.FieldType.int)) ∈ zTB := List.mem_filter.mpr ⟨List.mem_append_right _ (List.mem_append_right _ (List.mem_append_right _ (List.mem_append_right _ (List.mem_append_left _ (List.mem_of_getElem? (i := 173) rfl))))), rfl⟩
theorem cv_L_99 : zCV RL RX11 99 yX11_dark cX11_dark 2 (some .int) 1 := ⟨rfl, ⟨by decide, by decide, by decide +kernel⟩, wd_890, wd_891, wd_892, wd_1, wd_893⟩
theorem dL_law_801 : decode cL_law 801 = .ok (.aload_n 2, 1) := by decide +kernel
theorem dL_law_802 : decode cL_law 802 = .ok (.aload_n 0, 1) := by decide +kernel
theorem dL_law_803 : decode cL_law 803 = .ok (.iload 4, 2) := by decide +kernel
theorem dL_law_805 : decode cL_law 805 = .ok (.iconst 1, 1) := by decide +kernel
theorem dL_law_806 : decode cL_law 806 = .ok (.iadd, 1) := by decide +kernel
theorem dL_law_807 : decode cL_law 807 = .ok (.iaload, 1) := by decide +kernel
theorem dL_law_808 : decode cL_law 808 = .ok (.invokevirtual 102, 3) := by decide +kernel
theorem wd_1892 : (Jvm.Cond.selects "ParlourLeavesModel" ({ cls := "ParlourLeavesModel", name := "dark", desc := "(I)I" } : Jvm.MethodName) ({ cls := "ParlourLeavesModel", name := "dark", desc := "(I)I" } : Jvm.MethodName)) ∈ zTB := List.mem_filter.mpr ⟨List.mem_append_right _ (List.mem_append_right _ (List.mem_append_right _ (List.mem_append_right _ (List.mem_append_right _ (List.mem_append_right _ (List.mem_append_right _ (List.mem_append_right _ (List.mem_append_left _ (List.mem_of_getElem? (i := 212) rfl))))))))), rfl⟩
theorem wd_1890 : (Jvm.Cond.methodLink "ParlourLeavesLaw" (102 : Nat) ({ cls := "ParlourLeavesModel", name := "dark", desc := "(I)I" } : Jvm.MethodName)) ∈ zTB := List.mem_filter.mpr ⟨List.mem_append_right _ (List.mem_append_right _ (List.mem_append_right _ (List.mem_append_right _ (List.mem_append_right _ (List.mem_append_right _ (List.mem_append_right _ (List.mem_append_right _ (List.mem_append_left _ (List.mem_of_getElem? (i := 210) rfl))))))))), rfl⟩
theorem wd_1891 : (Jvm.Cond.instanceMethod ({ cls := "ParlourLeavesModel", name := "dark", desc := "(I)I" } : Jvm.MethodName)) ∈ zTB := List.mem_filter.mpr ⟨List.mem_append_right _ (List.mem_append_right _ (List.mem_append_right _ (List.mem_append_right _ (List.mem_append_right _ (List.mem_append_right _ (List.mem_append_right _ (List.mem_append_right _ (List.mem_append_left _ (List.mem_of_getElem? (i := 211) rfl))))))))), rfl⟩
theorem wd_1893 : (Jvm.Cond.code ({ cls := "ParlourLeavesModel", name := "dark", desc := "(I)I" } : Jvm.MethodName) prog_14_method_78_code (3 : Nat) (Option.some Jvm.ClassFile.FieldType.int)) ∈ zTB := List.mem_filter.mpr ⟨List.mem_append_right _ (List.mem_append_right _ (List.mem_append_right _ (List.mem_append_right _ (List.mem_append_right _ (List.mem_append_right _ (List.mem_append_right _ (List.mem_append_right _ (List.mem_append_left _ (List.mem_of_getElem? (i := 213) rfl))))))))), rfl⟩
theorem cv_L_102 : zCV RL RX12 102 yX12_dark cX12_dark 3 (some .int) 1 := ⟨rfl, ⟨by decide, by decide, by decide +kernel⟩, wd_1890, wd_1891, wd_1892, wd_19, wd_1893⟩
theorem dL_law_811 : decode cL_law 811 = .ok (.if_icmp .eq 457, 3) := by decide +kernel
set_option maxHeartbeats 1000000 in
set_option maxRecDepth 100000 in
theorem law_17 {p : Program} {l : Launch} {e : Env} {s : State} {m : MethodId} {below : List Frame} {meth : Method} {c : Code} {D : va_G} {cy : Nat → ClassId} {kK kV q qm : Nat → Nat} {o b L i cells slots : Nat} {xs : Nat → Int32} {Q : State → Prop} (cx : zX RL cL_law 7 p s m #[Value.ref b] c D cy) (hE : zEn kK kV (zAL s) s) (hX : va_X b L xs s s.heap) (hbl : b < s.heap.size) (hL : L ≤ 3072) (hi : i + 6 ≤ L) (hcl : cells + 2 ≤ 601024) (hsl : slots + 68 ≤ 7293034) (hl0 : l.stackTraces = false)
    (KC : ∀ (H : Heap) (locs : List Loc) (ls : Array Slot) (c1 s1 : Nat), zIv D cy s q qm o H locs → lv_has ls 7 [(4, .int (nI i)), (0, .ref b), (1, .ref (q 0)), (2, .ref (qm 0)), (3, .ref o)] → c1 ≤ cells + 2 → s1 ≤ slots + 68 → W p l e room_1 s m #[Value.ref b] below meth c H locs c1 s1 Q (F0 m 1268 ls []))
    {H : Heap} {locs : List Loc} {ls : Array Slot} (hv : zIv D cy s q qm o H locs) (hl : lv_has ls 7 [(4, .int (nI i)), (0, .ref b), (1, .ref (q 0)), (2, .ref (qm 0)), (3, .ref o)]) : W p l e room_1 s m #[Value.ref b] below meth c H locs cells slots Q (F0 m 791 ls []) := by
  have hx := cx.1
  have hb := cx.2.1
  have hbA : ¬ zAL s b := Nat.not_le.mpr hbl
  have hRc : zRc cells slots room_1 := ⟨by show cells + 0 ≤ 601024; omega, by show slots + 0 ≤ 7293034; omega⟩
  have in1 : vp_in (nI i + (1 : Int32)) L := zl_in (j := 1) hi hL (by decide)
  obtain ⟨S, T, tx, u, f, r, hu, hse, hw, hS⟩ := hv
  obtain ⟨z, T', h1, h2, r2⟩ := ov_dark r (xs (nI i + (1 : Int32)).toNatClampNeg)
  refine lv_aload_n (pc := 791) hx hb dL_law_791 rfl (lv_at hl 2 rfl) ?_
  refine lv_aload_n (pc := 792) hx hb dL_law_792 rfl (lv_at hl 1 rfl) ?_
  refine lv_iload (pc := 793) hx hb dL_law_793 (lv_at hl 0 rfl) ?_
  refine lv_iconst (pc := 795) hx hb dL_law_795 zc_1 ?_
  refine lv_iadd (pc := 796) hx hb dL_law_796 ?_
  refine va_sld (pc := 797) hx hb hX hbl hbA hS in1 dL_law_797 ?_
  refine zr_VI (pc := 798) (As := [.int (xs (nI i + (1 : Int32)).toNatClampNeg)]) (rest := []) cx cv_L_99 (mX11_dark h1) ⟨⟨rfl, rfl⟩, Nat.le_of_ble_eq_true rfl, Nat.le_of_ble_eq_true rfl⟩ hRc hw.1 nC_0 sC_0 rfl hl.1 rfl rfl (Nat.le_of_ble_eq_true rfl) dL_law_798 ?_
  refine lv_aload_n (pc := 801) hx hb dL_law_801 rfl (lv_at hl 3 rfl) ?_
  refine lv_aload_n (pc := 802) hx hb dL_law_802 rfl (lv_at hl 1 rfl) ?_
  refine lv_iload (pc := 803) hx hb dL_law_803 (lv_at hl 0 rfl) ?_
  refine lv_iconst (pc := 805) hx hb dL_law_805 zc_1 ?_
  refine lv_iadd (pc := 806) hx hb dL_law_806 ?_
  refine va_sld (pc := 807) hx hb hX hbl hbA hS in1 dL_law_807 ?_
  refine zl_M (pc := 808) (As := [.int (xs (nI i + (1 : Int32)).toNatClampNeg)]) (rest := [.int z]) cx cv_L_102 hse (mX12_dark hse.qM h2) ⟨⟨rfl, rfl⟩, Nat.le_of_ble_eq_true rfl, Nat.le_of_ble_eq_true rfl⟩ hRc hS hw hl.1 rfl rfl (Nat.le_of_ble_eq_true rfl) dL_law_808 (fun H locs hS hw => ?_)
  refine lv_icmp_eq (pc := 811) (tgt := 1268) hx hb dL_law_811 (by decide) (fun _ => ?_) (fun c0 => absurd rfl c0)
  exact KC _ _ ls _ _ ⟨S, T', tx, u, f, r2, hu, hse, hw, hS⟩ hl (by omega) (by omega)
theorem dL_law_816 : decode cL_law 816 = .ok (.aload_n 1, 1) := by decide +kernel
theorem dL_law_817 : decode cL_law 817 = .ok (.invokevirtual 103, 3) := by decide +kernel
theorem wd_903 : (Jvm.Cond.selects "ParlourLeaves" ({ cls := "ParlourLeaves", name := "fits", desc := "()I" } : Jvm.MethodName) ({ cls := "ParlourLeaves", name := "fits", desc := "()I" } : Jvm.MethodName)) ∈ zTB := List.mem_filter.mpr ⟨List.mem_append_right _ (List.mem_append_right _ (List.mem_append_right _ (List.mem_append_right _ (List.mem_append_left _ (List.mem_of_getElem? (i := 183) rfl))))), rfl⟩
theorem wd_901 : (Jvm.Cond.methodLink "ParlourLeavesLaw" (103 : Nat) ({ cls := "ParlourLeaves", name := "fits", desc := "()I" } : Jvm.MethodName)) ∈ zTB := List.mem_filter.mpr ⟨List.mem_append_right _ (List.mem_append_right _ (List.mem_append_right _ (List.mem_append_right _ (List.mem_append_left _ (List.mem_of_getElem? (i := 181) rfl))))), rfl⟩
theorem wd_902 : (Jvm.Cond.instanceMethod ({ cls := "ParlourLeaves", name := "fits", desc := "()I" } : Jvm.MethodName)) ∈ zTB := List.mem_filter.mpr ⟨List.mem_append_right _ (List.mem_append_right _ (List.mem_append_right _ (List.mem_append_right _ (List.mem_append_left _ (List.mem_of_getElem? (i := 182) rfl))))), rfl⟩
theorem wd_904 : (Jvm.Cond.code ({ cls := "ParlourLeaves", name := "fits", desc := "()I" } : Jvm.MethodName) prog_1_method_20_code (2 : Nat) (Option.some Jvm.ClassFile.FieldType.int)) ∈ zTB := List.mem_filter.mpr ⟨List.mem_append_right _ (List.mem_append_right _ (List.mem_append_right _ (List.mem_append_right _ (List.mem_append_left _ (List.mem_of_getElem? (i := 184) rfl))))), rfl⟩
theorem cv_L_103 : zCV RL RX11 103 yX11_fits cX11_fits 2 (some .int) 0 := ⟨rfl, ⟨by decide, by decide, by decide +kernel⟩, wd_901, wd_902, wd_903, wd_1, wd_904⟩
theorem dL_law_820 : decode cL_law 820 = .ok (.aload_n 2, 1) := by decide +kernel
theorem dL_law_821 : decode cL_law 821 = .ok (.invokevirtual 106, 3) := by decide +kernel
theorem wd_1896 : (Jvm.Cond.selects "ParlourLeavesModel" ({ cls := "ParlourLeavesModel", name := "fits", desc := "()I" } : Jvm.MethodName) ({ cls := "ParlourLeavesModel", name := "fits", desc := "()I" } : Jvm.MethodName)) ∈ zTB := List.mem_filter.mpr ⟨List.mem_append_right _ (List.mem_append_right _ (List.mem_append_right _ (List.mem_append_right _ (List.mem_append_right _ (List.mem_append_right _ (List.mem_append_right _ (List.mem_append_right _ (List.mem_append_left _ (List.mem_of_getElem? (i := 216) rfl))))))))), rfl⟩
theorem wd_1894 : (Jvm.Cond.methodLink "ParlourLeavesLaw" (106 : Nat) ({ cls := "ParlourLeavesModel", name := "fits", desc := "()I" } : Jvm.MethodName)) ∈ zTB := List.mem_filter.mpr ⟨List.mem_append_right _ (List.mem_append_right _ (List.mem_append_right _ (List.mem_append_right _ (List.mem_append_right _ (List.mem_append_right _ (List.mem_append_right _ (List.mem_append_right _ (List.mem_append_left _ (List.mem_of_getElem? (i := 214) rfl))))))))), rfl⟩
theorem wd_1895 : (Jvm.Cond.instanceMethod ({ cls := "ParlourLeavesModel", name := "fits", desc := "()I" } : Jvm.MethodName)) ∈ zTB := List.mem_filter.mpr ⟨List.mem_append_right _ (List.mem_append_right _ (List.mem_append_right _ (List.mem_append_right _ (List.mem_append_right _ (List.mem_append_right _ (List.mem_append_right _ (List.mem_append_right _ (List.mem_append_left _ (List.mem_of_getElem? (i := 215) rfl))))))))), rfl⟩
theorem wd_1897 : (Jvm.Cond.code ({ cls := "ParlourLeavesModel", name := "fits", desc := "()I" } : Jvm.MethodName) prog_14_method_79_code (7 : Nat) (Option.some Jvm.ClassFile.FieldType.int)) ∈ zTB := List.mem_filter.mpr ⟨List.mem_append_right _ (List.mem_append_right _ (List.mem_append_right _ (List.mem_append_right _ (List.mem_append_right _ (List.mem_append_right _ (List.mem_append_right _ (List.mem_append_right _ (List.mem_append_left _ (List.mem_of_getElem? (i := 217) rfl))))))))), rfl⟩
theorem cv_L_106 : zCV RL RX12 106 yX12_fits cX12_fits 7 (some .int) 0 := ⟨rfl, ⟨by decide, by decide, by decide +kernel⟩, wd_1894, wd_1895, wd_1896, wd_19, wd_1897⟩
theorem dL_law_824 : decode cL_law 824 = .ok (.if_icmp .eq 444, 3) := by decide +kernel
set_option maxHeartbeats 1000000 in
set_option maxRecDepth 100000 in
theorem law_18 {p : Program} {l : Launch} {e : Env} {s : State} {m : MethodId} {below : List Frame} {meth : Method} {c : Code} {D : va_G} {cy : Nat → ClassId} {kK kV q qm : Nat → Nat} {o b L i cells slots : Nat} {xs : Nat → Int32} {Q : State → Prop} (cx : zX RL cL_law 7 p s m #[Value.ref b] c D cy) (hE : zEn kK kV (zAL s) s) (hX : va_X b L xs s s.heap) (hbl : b < s.heap.size) (hL : L ≤ 3072) (hi : i + 6 ≤ L) (hcl : cells + 2 ≤ 601024) (hsl : slots + 68 ≤ 7293034) (hl0 : l.stackTraces = false)
    (KC : ∀ (H : Heap) (locs : List Loc) (ls : Array Slot) (c1 s1 : Nat), zIv D cy s q qm o H locs → lv_has ls 7 [(4, .int (nI i)), (0, .ref b), (1, .ref (q 0)), (2, .ref (qm 0)), (3, .ref o)] → c1 ≤ cells + 2 → s1 ≤ slots + 68 → W p l e room_1 s m #[Value.ref b] below meth c H locs c1 s1 Q (F0 m 1268 ls []))
    {H : Heap} {locs : List Loc} {ls : Array Slot} (hv : zIv D cy s q qm o H locs) (hl : lv_has ls 7 [(4, .int (nI i)), (0, .ref b), (1, .ref (q 0)), (2, .ref (qm 0)), (3, .ref o)]) : W p l e room_1 s m #[Value.ref b] below meth c H locs cells slots Q (F0 m 816 ls []) := by
  have hx := cx.1
  have hb := cx.2.1
  have hbA : ¬ zAL s b := Nat.not_le.mpr hbl
  have hRc : zRc cells slots room_1 := ⟨by show cells + 0 ≤ 601024; omega, by show slots + 0 ≤ 7293034; omega⟩
  obtain ⟨S, T, tx, u, f, r, hu, hse, hw, hS⟩ := hv
  obtain ⟨z, S', T', h1, h2, r2⟩ := ov_fits r 
  refine lv_aload_n (pc := 816) hx hb dL_law_816 rfl (lv_at hl 2 rfl) ?_
  refine zl_C (pc := 817) (As := []) (rest := []) cx cv_L_103 hse (mX11_fits hse.qC h1) ⟨⟨rfl, rfl⟩, Nat.le_of_ble_eq_true rfl, Nat.le_of_ble_eq_true rfl⟩ hRc hS hw hl.1 rfl rfl (Nat.le_of_ble_eq_true rfl) dL_law_817 (fun H locs hS hw => ?_)
  refine lv_aload_n (pc := 820) hx hb dL_law_820 rfl (lv_at hl 3 rfl) ?_
  refine zl_M (pc := 821) (As := []) (rest := [.int z]) cx cv_L_106 hse (mX12_fits hse.qM h2) ⟨⟨rfl, rfl⟩, Nat.le_of_ble_eq_true rfl, Nat.le_of_ble_eq_true rfl⟩ hRc hS hw hl.1 rfl rfl (Nat.le_of_ble_eq_true rfl) dL_law_821 (fun H locs hS hw => ?_)
  refine lv_icmp_eq (pc := 824) (tgt := 1268) hx hb dL_law_824 (by decide) (fun _ => ?_) (fun c0 => absurd rfl c0)
  exact KC _ _ ls _ _ ⟨S', T', tx, u, f, r2, hu, hse, hw, hS⟩ hl (by omega) (by omega)
theorem dL_law_829 : decode cL_law 829 = .ok (.aload_n 1, 1) := by decide +kernel
theorem dL_law_830 : decode cL_law 830 = .ok (.invokevirtual 107, 3) := by decide +kernel
theorem wd_919 : (Jvm.Cond.selects "ParlourLeaves" ({ cls := "ParlourLeaves", name := "ask", desc := "()I" } : Jvm.MethodName) ({ cls := "ParlourLeaves", name := "ask", desc := "()I" } : Jvm.MethodName)) ∈ zTB := List.mem_filter.mpr ⟨List.mem_append_right _ (List.mem_append_right _ (List.mem_append_right _ (List.mem_append_right _ (List.mem_append_left _ (List.mem_of_getElem? (i := 199) rfl))))), rfl⟩
theorem wd_917 : (Jvm.Cond.methodLink "ParlourLeavesLaw" (107 : Nat) ({ cls := "ParlourLeaves", name := "ask", desc := "()I" } : Jvm.MethodName)) ∈ zTB := List.mem_filter.mpr ⟨List.mem_append_right _ (List.mem_append_right _ (List.mem_append_right _ (List.mem_append_right _ (List.mem_append_left _ (List.mem_of_getElem? (i := 197) rfl))))), rfl⟩
theorem wd_918 : (Jvm.Cond.instanceMethod ({ cls := "ParlourLeaves", name := "ask", desc := "()I" } : Jvm.MethodName)) ∈ zTB := List.mem_filter.mpr ⟨List.mem_append_right _ (List.mem_append_right _ (List.mem_append_right _ (List.mem_append_right _ (List.mem_append_left _ (List.mem_of_getElem? (i := 198) rfl))))), rfl⟩
theorem wd_920 : (Jvm.Cond.code ({ cls := "ParlourLeaves", name := "ask", desc := "()I" } : Jvm.MethodName) prog_1_method_21_code (1 : Nat) (Option.some Jvm.ClassFile.FieldType.int)) ∈ zTB := List.mem_filter.mpr ⟨List.mem_append_right _ (List.mem_append_right _ (List.mem_append_right _ (List.mem_append_right _ (List.mem_append_left _ (List.mem_of_getElem? (i := 200) rfl))))), rfl⟩
theorem cv_L_107 : zCV RL RX11 107 yX11_ask cX11_ask 1 (some .int) 0 := ⟨rfl, ⟨by decide, by decide, by decide +kernel⟩, wd_917, wd_918, wd_919, wd_1, wd_920⟩
theorem dL_law_833 : decode cL_law 833 = .ok (.aload_n 2, 1) := by decide +kernel
theorem dL_law_834 : decode cL_law 834 = .ok (.invokevirtual 110, 3) := by decide +kernel
theorem wd_1904 : (Jvm.Cond.selects "ParlourLeavesModel" ({ cls := "ParlourLeavesModel", name := "ask", desc := "()I" } : Jvm.MethodName) ({ cls := "ParlourLeavesModel", name := "ask", desc := "()I" } : Jvm.MethodName)) ∈ zTB := List.mem_filter.mpr ⟨List.mem_append_right _ (List.mem_append_right _ (List.mem_append_right _ (List.mem_append_right _ (List.mem_append_right _ (List.mem_append_right _ (List.mem_append_right _ (List.mem_append_right _ (List.mem_append_left _ (List.mem_of_getElem? (i := 224) rfl))))))))), rfl⟩
theorem wd_1902 : (Jvm.Cond.methodLink "ParlourLeavesLaw" (110 : Nat) ({ cls := "ParlourLeavesModel", name := "ask", desc := "()I" } : Jvm.MethodName)) ∈ zTB := List.mem_filter.mpr ⟨List.mem_append_right _ (List.mem_append_right _ (List.mem_append_right _ (List.mem_append_right _ (List.mem_append_right _ (List.mem_append_right _ (List.mem_append_right _ (List.mem_append_right _ (List.mem_append_left _ (List.mem_of_getElem? (i := 222) rfl))))))))), rfl⟩
theorem wd_1903 : (Jvm.Cond.instanceMethod ({ cls := "ParlourLeavesModel", name := "ask", desc := "()I" } : Jvm.MethodName)) ∈ zTB := List.mem_filter.mpr ⟨List.mem_append_right _ (List.mem_append_right _ (List.mem_append_right _ (List.mem_append_right _ (List.mem_append_right _ (List.mem_append_right _ (List.mem_append_right _ (List.mem_append_right _ (List.mem_append_left _ (List.mem_of_getElem? (i := 223) rfl))))))))), rfl⟩
theorem wd_1905 : (Jvm.Cond.code ({ cls := "ParlourLeavesModel", name := "ask", desc := "()I" } : Jvm.MethodName) prog_14_method_80_code (1 : Nat) (Option.some Jvm.ClassFile.FieldType.int)) ∈ zTB := List.mem_filter.mpr ⟨List.mem_append_right _ (List.mem_append_right _ (List.mem_append_right _ (List.mem_append_right _ (List.mem_append_right _ (List.mem_append_right _ (List.mem_append_right _ (List.mem_append_right _ (List.mem_append_left _ (List.mem_of_getElem? (i := 225) rfl))))))))), rfl⟩
theorem cv_L_110 : zCV RL RX12 110 yX12_ask cX12_ask 1 (some .int) 0 := ⟨rfl, ⟨by decide, by decide, by decide +kernel⟩, wd_1902, wd_1903, wd_1904, wd_19, wd_1905⟩
theorem dL_law_837 : decode cL_law 837 = .ok (.if_icmp .eq 431, 3) := by decide +kernel
set_option maxHeartbeats 1000000 in
set_option maxRecDepth 100000 in
theorem law_19 {p : Program} {l : Launch} {e : Env} {s : State} {m : MethodId} {below : List Frame} {meth : Method} {c : Code} {D : va_G} {cy : Nat → ClassId} {kK kV q qm : Nat → Nat} {o b L i cells slots : Nat} {xs : Nat → Int32} {Q : State → Prop} (cx : zX RL cL_law 7 p s m #[Value.ref b] c D cy) (hE : zEn kK kV (zAL s) s) (hX : va_X b L xs s s.heap) (hbl : b < s.heap.size) (hL : L ≤ 3072) (hi : i + 6 ≤ L) (hcl : cells + 2 ≤ 601024) (hsl : slots + 68 ≤ 7293034) (hl0 : l.stackTraces = false)
    (KC : ∀ (H : Heap) (locs : List Loc) (ls : Array Slot) (c1 s1 : Nat), zIv D cy s q qm o H locs → lv_has ls 7 [(4, .int (nI i)), (0, .ref b), (1, .ref (q 0)), (2, .ref (qm 0)), (3, .ref o)] → c1 ≤ cells + 2 → s1 ≤ slots + 68 → W p l e room_1 s m #[Value.ref b] below meth c H locs c1 s1 Q (F0 m 1268 ls []))
    {H : Heap} {locs : List Loc} {ls : Array Slot} (hv : zIv D cy s q qm o H locs) (hl : lv_has ls 7 [(4, .int (nI i)), (0, .ref b), (1, .ref (q 0)), (2, .ref (qm 0)), (3, .ref o)]) : W p l e room_1 s m #[Value.ref b] below meth c H locs cells slots Q (F0 m 829 ls []) := by
  have hx := cx.1
  have hb := cx.2.1
  have hbA : ¬ zAL s b := Nat.not_le.mpr hbl
  have hRc : zRc cells slots room_1 := ⟨by show cells + 0 ≤ 601024; omega, by show slots + 0 ≤ 7293034; omega⟩
  obtain ⟨S, T, tx, u, f, r, hu, hse, hw, hS⟩ := hv
  obtain ⟨z, T', h1, h2, r2⟩ := ov_ask r 
  refine lv_aload_n (pc := 829) hx hb dL_law_829 rfl (lv_at hl 2 rfl) ?_
  refine zr_VI (pc := 830) (As := []) (rest := []) cx cv_L_107 (mX11_ask h1) ⟨⟨rfl, rfl⟩, Nat.le_of_ble_eq_true rfl, Nat.le_of_ble_eq_true rfl⟩ hRc hw.1 nC_0 sC_0 rfl hl.1 rfl rfl (Nat.le_of_ble_eq_true rfl) dL_law_830 ?_
  refine lv_aload_n (pc := 833) hx hb dL_law_833 rfl (lv_at hl 3 rfl) ?_
  refine zl_M (pc := 834) (As := []) (rest := [.int z]) cx cv_L_110 hse (mX12_ask hse.qM h2) ⟨⟨rfl, rfl⟩, Nat.le_of_ble_eq_true rfl, Nat.le_of_ble_eq_true rfl⟩ hRc hS hw hl.1 rfl rfl (Nat.le_of_ble_eq_true rfl) dL_law_834 (fun H locs hS hw => ?_)
  refine lv_icmp_eq (pc := 837) (tgt := 1268) hx hb dL_law_837 (by decide) (fun _ => ?_) (fun c0 => absurd rfl c0)
  exact KC _ _ ls _ _ ⟨S, T', tx, u, f, r2, hu, hse, hw, hS⟩ hl (by omega) (by omega)
theorem dL_law_842 : decode cL_law 842 = .ok (.aload_n 1, 1) := by decide +kernel
theorem dL_law_843 : decode cL_law 843 = .ok (.invokevirtual 111, 3) := by decide +kernel
theorem wd_923 : (Jvm.Cond.selects "ParlourLeaves" ({ cls := "ParlourLeaves", name := "cover", desc := "()I" } : Jvm.MethodName) ({ cls := "ParlourLeaves", name := "cover", desc := "()I" } : Jvm.MethodName)) ∈ zTB := List.mem_filter.mpr ⟨List.mem_append_right _ (List.mem_append_right _ (List.mem_append_right _ (List.mem_append_right _ (List.mem_append_left _ (List.mem_of_getElem? (i := 203) rfl))))), rfl⟩
theorem wd_921 : (Jvm.Cond.methodLink "ParlourLeavesLaw" (111 : Nat) ({ cls := "ParlourLeaves", name := "cover", desc := "()I" } : Jvm.MethodName)) ∈ zTB := List.mem_filter.mpr ⟨List.mem_append_right _ (List.mem_append_right _ (List.mem_append_right _ (List.mem_append_right _ (List.mem_append_left _ (List.mem_of_getElem? (i := 201) rfl))))), rfl⟩
theorem wd_922 : (Jvm.Cond.instanceMethod ({ cls := "ParlourLeaves", name := "cover", desc := "()I" } : Jvm.MethodName)) ∈ zTB := List.mem_filter.mpr ⟨List.mem_append_right _ (List.mem_append_right _ (List.mem_append_right _ (List.mem_append_right _ (List.mem_append_left _ (List.mem_of_getElem? (i := 202) rfl))))), rfl⟩
theorem wd_924 : (Jvm.Cond.code ({ cls := "ParlourLeaves", name := "cover", desc := "()I" } : Jvm.MethodName) prog_1_method_22_code (1 : Nat) (Option.some Jvm.ClassFile.FieldType.int)) ∈ zTB := List.mem_filter.mpr ⟨List.mem_append_right _ (List.mem_append_right _ (List.mem_append_right _ (List.mem_append_right _ (List.mem_append_left _ (List.mem_of_getElem? (i := 204) rfl))))), rfl⟩
theorem cv_L_111 : zCV RL RX11 111 yX11_cover cX11_cover 1 (some .int) 0 := ⟨rfl, ⟨by decide, by decide, by decide +kernel⟩, wd_921, wd_922, wd_923, wd_1, wd_924⟩
theorem dL_law_846 : decode cL_law 846 = .ok (.aload_n 2, 1) := by decide +kernel
theorem dL_law_847 : decode cL_law 847 = .ok (.invokevirtual 114, 3) := by decide +kernel
theorem wd_1908 : (Jvm.Cond.selects "ParlourLeavesModel" ({ cls := "ParlourLeavesModel", name := "cover", desc := "()I" } : Jvm.MethodName) ({ cls := "ParlourLeavesModel", name := "cover", desc := "()I" } : Jvm.MethodName)) ∈ zTB := List.mem_filter.mpr ⟨List.mem_append_right _ (List.mem_append_right _ (List.mem_append_right _ (List.mem_append_right _ (List.mem_append_right _ (List.mem_append_right _ (List.mem_append_right _ (List.mem_append_right _ (List.mem_append_left _ (List.mem_of_getElem? (i := 228) rfl))))))))), rfl⟩
theorem wd_1906 : (Jvm.Cond.methodLink "ParlourLeavesLaw" (114 : Nat) ({ cls := "ParlourLeavesModel", name := "cover", desc := "()I" } : Jvm.MethodName)) ∈ zTB := List.mem_filter.mpr ⟨List.mem_append_right _ (List.mem_append_right _ (List.mem_append_right _ (List.mem_append_right _ (List.mem_append_right _ (List.mem_append_right _ (List.mem_append_right _ (List.mem_append_right _ (List.mem_append_left _ (List.mem_of_getElem? (i := 226) rfl))))))))), rfl⟩
theorem wd_1907 : (Jvm.Cond.instanceMethod ({ cls := "ParlourLeavesModel", name := "cover", desc := "()I" } : Jvm.MethodName)) ∈ zTB := List.mem_filter.mpr ⟨List.mem_append_right _ (List.mem_append_right _ (List.mem_append_right _ (List.mem_append_right _ (List.mem_append_right _ (List.mem_append_right _ (List.mem_append_right _ (List.mem_append_right _ (List.mem_append_left _ (List.mem_of_getElem? (i := 227) rfl))))))))), rfl⟩
theorem wd_1909 : (Jvm.Cond.code ({ cls := "ParlourLeavesModel", name := "cover", desc := "()I" } : Jvm.MethodName) prog_14_method_82_code (4 : Nat) (Option.some Jvm.ClassFile.FieldType.int)) ∈ zTB := List.mem_filter.mpr ⟨List.mem_append_right _ (List.mem_append_right _ (List.mem_append_right _ (List.mem_append_right _ (List.mem_append_right _ (List.mem_append_right _ (List.mem_append_right _ (List.mem_append_right _ (List.mem_append_left _ (List.mem_of_getElem? (i := 229) rfl))))))))), rfl⟩
theorem cv_L_114 : zCV RL RX12 114 yX12_cover cX12_cover 4 (some .int) 0 := ⟨rfl, ⟨by decide, by decide, by decide +kernel⟩, wd_1906, wd_1907, wd_1908, wd_19, wd_1909⟩
theorem dL_law_850 : decode cL_law 850 = .ok (.if_icmp .eq 418, 3) := by decide +kernel
set_option maxHeartbeats 1000000 in
set_option maxRecDepth 100000 in
theorem law_20 {p : Program} {l : Launch} {e : Env} {s : State} {m : MethodId} {below : List Frame} {meth : Method} {c : Code} {D : va_G} {cy : Nat → ClassId} {kK kV q qm : Nat → Nat} {o b L i cells slots : Nat} {xs : Nat → Int32} {Q : State → Prop} (cx : zX RL cL_law 7 p s m #[Value.ref b] c D cy) (hE : zEn kK kV (zAL s) s) (hX : va_X b L xs s s.heap) (hbl : b < s.heap.size) (hL : L ≤ 3072) (hi : i + 6 ≤ L) (hcl : cells + 2 ≤ 601024) (hsl : slots + 68 ≤ 7293034) (hl0 : l.stackTraces = false)
    (KC : ∀ (H : Heap) (locs : List Loc) (ls : Array Slot) (c1 s1 : Nat), zIv D cy s q qm o H locs → lv_has ls 7 [(4, .int (nI i)), (0, .ref b), (1, .ref (q 0)), (2, .ref (qm 0)), (3, .ref o)] → c1 ≤ cells + 2 → s1 ≤ slots + 68 → W p l e room_1 s m #[Value.ref b] below meth c H locs c1 s1 Q (F0 m 1268 ls []))
    {H : Heap} {locs : List Loc} {ls : Array Slot} (hv : zIv D cy s q qm o H locs) (hl : lv_has ls 7 [(4, .int (nI i)), (0, .ref b), (1, .ref (q 0)), (2, .ref (qm 0)), (3, .ref o)]) : W p l e room_1 s m #[Value.ref b] below meth c H locs cells slots Q (F0 m 842 ls []) := by
  have hx := cx.1
  have hb := cx.2.1
  have hbA : ¬ zAL s b := Nat.not_le.mpr hbl
  have hRc : zRc cells slots room_1 := ⟨by show cells + 0 ≤ 601024; omega, by show slots + 0 ≤ 7293034; omega⟩
  obtain ⟨S, T, tx, u, f, r, hu, hse, hw, hS⟩ := hv
  obtain ⟨z, S', T', h1, h2, r2⟩ := ov_cover r 
  refine lv_aload_n (pc := 842) hx hb dL_law_842 rfl (lv_at hl 2 rfl) ?_
  refine zl_C (pc := 843) (As := []) (rest := []) cx cv_L_111 hse (mX11_cover hse.qC h1) ⟨⟨rfl, rfl⟩, Nat.le_of_ble_eq_true rfl, Nat.le_of_ble_eq_true rfl⟩ hRc hS hw hl.1 rfl rfl (Nat.le_of_ble_eq_true rfl) dL_law_843 (fun H locs hS hw => ?_)
  refine lv_aload_n (pc := 846) hx hb dL_law_846 rfl (lv_at hl 3 rfl) ?_
  refine zl_M (pc := 847) (As := []) (rest := [.int z]) cx cv_L_114 hse (mX12_cover hse.qM h2) ⟨⟨rfl, rfl⟩, Nat.le_of_ble_eq_true rfl, Nat.le_of_ble_eq_true rfl⟩ hRc hS hw hl.1 rfl rfl (Nat.le_of_ble_eq_true rfl) dL_law_847 (fun H locs hS hw => ?_)
  refine lv_icmp_eq (pc := 850) (tgt := 1268) hx hb dL_law_850 (by decide) (fun _ => ?_) (fun c0 => absurd rfl c0)
  exact KC _ _ ls _ _ ⟨S', T', tx, u, f, r2, hu, hse, hw, hS⟩ hl (by omega) (by omega)
theorem dL_law_855 : decode cL_law 855 = .ok (.aload_n 1, 1) := by decide +kernel
theorem dL_law_856 : decode cL_law 856 = .ok (.invokevirtual 115, 3) := by decide +kernel
theorem wd_937 : (Jvm.Cond.selects "ParlourLeaves" ({ cls := "ParlourLeaves", name := "covering", desc := "()I" } : Jvm.MethodName) ({ cls := "ParlourLeaves", name := "covering", desc := "()I" } : Jvm.MethodName)) ∈ zTB := List.mem_filter.mpr ⟨List.mem_append_right _ (List.mem_append_right _ (List.mem_append_right _ (List.mem_append_right _ (List.mem_append_left _ (List.mem_of_getElem? (i := 217) rfl))))), rfl⟩
theorem wd_935 : (Jvm.Cond.methodLink "ParlourLeavesLaw" (115 : Nat) ({ cls := "ParlourLeaves", name := "covering", desc := "()I" } : Jvm.MethodName)) ∈ zTB := List.mem_filter.mpr ⟨List.mem_append_right _ (List.mem_append_right _ (List.mem_append_right _ (List.mem_append_right _ (List.mem_append_left _ (List.mem_of_getElem? (i := 215) rfl))))), rfl⟩
theorem wd_936 : (Jvm.Cond.instanceMethod ({ cls := "ParlourLeaves", name := "covering", desc := "()I" } : Jvm.MethodName)) ∈ zTB := List.mem_filter.mpr ⟨List.mem_append_right _ (List.mem_append_right _ (List.mem_append_right _ (List.mem_append_right _ (List.mem_append_left _ (List.mem_of_getElem? (i := 216) rfl))))), rfl⟩
theorem wd_938 : (Jvm.Cond.code ({ cls := "ParlourLeaves", name := "covering", desc := "()I" } : Jvm.MethodName) prog_1_method_23_code (1 : Nat) (Option.some Jvm.ClassFile.FieldType.int)) ∈ zTB := List.mem_filter.mpr ⟨List.mem_append_right _ (List.mem_append_right _ (List.mem_append_right _ (List.mem_append_right _ (List.mem_append_left _ (List.mem_of_getElem? (i := 218) rfl))))), rfl⟩
theorem cv_L_115 : zCV RL RX11 115 yX11_covering cX11_covering 1 (some .int) 0 := ⟨rfl, ⟨by decide, by decide, by decide +kernel⟩, wd_935, wd_936, wd_937, wd_1, wd_938⟩
theorem dL_law_859 : decode cL_law 859 = .ok (.aload_n 2, 1) := by decide +kernel
theorem dL_law_860 : decode cL_law 860 = .ok (.invokevirtual 118, 3) := by decide +kernel
theorem wd_1916 : (Jvm.Cond.selects "ParlourLeavesModel" ({ cls := "ParlourLeavesModel", name := "covering", desc := "()I" } : Jvm.MethodName) ({ cls := "ParlourLeavesModel", name := "covering", desc := "()I" } : Jvm.MethodName)) ∈ zTB := List.mem_filter.mpr ⟨List.mem_append_right _ (List.mem_append_right _ (List.mem_append_right _ (List.mem_append_right _ (List.mem_append_right _ (List.mem_append_right _ (List.mem_append_right _ (List.mem_append_right _ (List.mem_append_left _ (List.mem_of_getElem? (i := 236) rfl))))))))), rfl⟩
theorem wd_1914 : (Jvm.Cond.methodLink "ParlourLeavesLaw" (118 : Nat) ({ cls := "ParlourLeavesModel", name := "covering", desc := "()I" } : Jvm.MethodName)) ∈ zTB := List.mem_filter.mpr ⟨List.mem_append_right _ (List.mem_append_right _ (List.mem_append_right _ (List.mem_append_right _ (List.mem_append_right _ (List.mem_append_right _ (List.mem_append_right _ (List.mem_append_right _ (List.mem_append_left _ (List.mem_of_getElem? (i := 234) rfl))))))))), rfl⟩
theorem wd_1915 : (Jvm.Cond.instanceMethod ({ cls := "ParlourLeavesModel", name := "covering", desc := "()I" } : Jvm.MethodName)) ∈ zTB := List.mem_filter.mpr ⟨List.mem_append_right _ (List.mem_append_right _ (List.mem_append_right _ (List.mem_append_right _ (List.mem_append_right _ (List.mem_append_right _ (List.mem_append_right _ (List.mem_append_right _ (List.mem_append_left _ (List.mem_of_getElem? (i := 235) rfl))))))))), rfl⟩
theorem wd_1917 : (Jvm.Cond.code ({ cls := "ParlourLeavesModel", name := "covering", desc := "()I" } : Jvm.MethodName) prog_14_method_83_code (1 : Nat) (Option.some Jvm.ClassFile.FieldType.int)) ∈ zTB := List.mem_filter.mpr ⟨List.mem_append_right _ (List.mem_append_right _ (List.mem_append_right _ (List.mem_append_right _ (List.mem_append_right _ (List.mem_append_right _ (List.mem_append_right _ (List.mem_append_right _ (List.mem_append_left _ (List.mem_of_getElem? (i := 237) rfl))))))))), rfl⟩
theorem cv_L_118 : zCV RL RX12 118 yX12_covering cX12_covering 1 (some .int) 0 := ⟨rfl, ⟨by decide, by decide, by decide +kernel⟩, wd_1914, wd_1915, wd_1916, wd_19, wd_1917⟩
theorem dL_law_863 : decode cL_law 863 = .ok (.if_icmp .eq 405, 3) := by decide +kernel
set_option maxHeartbeats 1000000 in
set_option maxRecDepth 100000 in
theorem law_21 {p : Program} {l : Launch} {e : Env} {s : State} {m : MethodId} {below : List Frame} {meth : Method} {c : Code} {D : va_G} {cy : Nat → ClassId} {kK kV q qm : Nat → Nat} {o b L i cells slots : Nat} {xs : Nat → Int32} {Q : State → Prop} (cx : zX RL cL_law 7 p s m #[Value.ref b] c D cy) (hE : zEn kK kV (zAL s) s) (hX : va_X b L xs s s.heap) (hbl : b < s.heap.size) (hL : L ≤ 3072) (hi : i + 6 ≤ L) (hcl : cells + 2 ≤ 601024) (hsl : slots + 68 ≤ 7293034) (hl0 : l.stackTraces = false)
    (KC : ∀ (H : Heap) (locs : List Loc) (ls : Array Slot) (c1 s1 : Nat), zIv D cy s q qm o H locs → lv_has ls 7 [(4, .int (nI i)), (0, .ref b), (1, .ref (q 0)), (2, .ref (qm 0)), (3, .ref o)] → c1 ≤ cells + 2 → s1 ≤ slots + 68 → W p l e room_1 s m #[Value.ref b] below meth c H locs c1 s1 Q (F0 m 1268 ls []))
    {H : Heap} {locs : List Loc} {ls : Array Slot} (hv : zIv D cy s q qm o H locs) (hl : lv_has ls 7 [(4, .int (nI i)), (0, .ref b), (1, .ref (q 0)), (2, .ref (qm 0)), (3, .ref o)]) : W p l e room_1 s m #[Value.ref b] below meth c H locs cells slots Q (F0 m 855 ls []) := by
  have hx := cx.1
  have hb := cx.2.1
  have hbA : ¬ zAL s b := Nat.not_le.mpr hbl
  have hRc : zRc cells slots room_1 := ⟨by show cells + 0 ≤ 601024; omega, by show slots + 0 ≤ 7293034; omega⟩
  obtain ⟨S, T, tx, u, f, r, hu, hse, hw, hS⟩ := hv
  obtain ⟨z, T', h1, h2, r2⟩ := ov_covering r 
  refine lv_aload_n (pc := 855) hx hb dL_law_855 rfl (lv_at hl 2 rfl) ?_
  refine zr_VI (pc := 856) (As := []) (rest := []) cx cv_L_115 (mX11_covering h1) ⟨⟨rfl, rfl⟩, Nat.le_of_ble_eq_true rfl, Nat.le_of_ble_eq_true rfl⟩ hRc hw.1 nC_0 sC_0 rfl hl.1 rfl rfl (Nat.le_of_ble_eq_true rfl) dL_law_856 ?_
  refine lv_aload_n (pc := 859) hx hb dL_law_859 rfl (lv_at hl 3 rfl) ?_
  refine zl_M (pc := 860) (As := []) (rest := [.int z]) cx cv_L_118 hse (mX12_covering hse.qM h2) ⟨⟨rfl, rfl⟩, Nat.le_of_ble_eq_true rfl, Nat.le_of_ble_eq_true rfl⟩ hRc hS hw hl.1 rfl rfl (Nat.le_of_ble_eq_true rfl) dL_law_860 (fun H locs hS hw => ?_)
  refine lv_icmp_eq (pc := 863) (tgt := 1268) hx hb dL_law_863 (by decide) (fun _ => ?_) (fun c0 => absurd rfl c0)
  exact KC _ _ ls _ _ ⟨S, T', tx, u, f, r2, hu, hse, hw, hS⟩ hl (by omega) (by omega)
theorem dL_law_868 : decode cL_law 868 = .ok (.aload_n 1, 1) := by decide +kernel
theorem dL_law_869 : decode cL_law 869 = .ok (.aload_n 0, 1) := by decide +kernel
theorem dL_law_870 : decode cL_law 870 = .ok (.iload 4, 2) := by decide +kernel
theorem dL_law_872 : decode cL_law 872 = .ok (.iconst 1, 1) := by decide +kernel
theorem dL_law_873 : decode cL_law 873 = .ok (.iadd, 1) := by decide +kernel
theorem dL_law_874 : decode cL_law 874 = .ok (.iaload, 1) := by decide +kernel
theorem dL_law_875 : decode cL_law 875 = .ok (.invokevirtual 119, 3) := by decide +kernel
theorem wd_941 : (Jvm.Cond.selects "ParlourLeaves" ({ cls := "ParlourLeaves", name := "round", desc := "(I)I" } : Jvm.MethodName) ({ cls := "ParlourLeaves", name := "round", desc := "(I)I" } : Jvm.MethodName)) ∈ zTB := List.mem_filter.mpr ⟨List.mem_append_right _ (List.mem_append_right _ (List.mem_append_right _ (List.mem_append_right _ (List.mem_append_left _ (List.mem_of_getElem? (i := 221) rfl))))), rfl⟩
theorem wd_939 : (Jvm.Cond.methodLink "ParlourLeavesLaw" (119 : Nat) ({ cls := "ParlourLeaves", name := "round", desc := "(I)I" } : Jvm.MethodName)) ∈ zTB := List.mem_filter.mpr ⟨List.mem_append_right _ (List.mem_append_right _ (List.mem_append_right _ (List.mem_append_right _ (List.mem_append_left _ (List.mem_of_getElem? (i := 219) rfl))))), rfl⟩
theorem wd_940 : (Jvm.Cond.instanceMethod ({ cls := "ParlourLeaves", name := "round", desc := "(I)I" } : Jvm.MethodName)) ∈ zTB := List.mem_filter.mpr ⟨List.mem_append_right _ (List.mem_append_right _ (List.mem_append_right _ (List.mem_append_right _ (List.mem_append_left _ (List.mem_of_getElem? (i := 220) rfl))))), rfl⟩
theorem wd_942 : (Jvm.Cond.code ({ cls := "ParlourLeaves", name := "round", desc := "(I)I" } : Jvm.MethodName) prog_1_method_24_code (2 : Nat) (Option.some Jvm.ClassFile.FieldType.int)) ∈ zTB := List.mem_filter.mpr ⟨List.mem_append_right _ (List.mem_append_right _ (List.mem_append_right _ (List.mem_append_right _ (List.mem_append_left _ (List.mem_of_getElem? (i := 222) rfl))))), rfl⟩
theorem cv_L_119 : zCV RL RX11 119 yX11_round cX11_round 2 (some .int) 1 := ⟨rfl, ⟨by decide, by decide, by decide +kernel⟩, wd_939, wd_940, wd_941, wd_1, wd_942⟩
theorem dL_law_878 : decode cL_law 878 = .ok (.aload_n 2, 1) := by decide +kernel
theorem dL_law_879 : decode cL_law 879 = .ok (.aload_n 0, 1) := by decide +kernel
theorem dL_law_880 : decode cL_law 880 = .ok (.iload 4, 2) := by decide +kernel
theorem dL_law_882 : decode cL_law 882 = .ok (.iconst 1, 1) := by decide +kernel
theorem dL_law_883 : decode cL_law 883 = .ok (.iadd, 1) := by decide +kernel
theorem dL_law_884 : decode cL_law 884 = .ok (.iaload, 1) := by decide +kernel
theorem dL_law_885 : decode cL_law 885 = .ok (.invokevirtual 122, 3) := by decide +kernel
theorem wd_1920 : (Jvm.Cond.selects "ParlourLeavesModel" ({ cls := "ParlourLeavesModel", name := "round", desc := "(I)I" } : Jvm.MethodName) ({ cls := "ParlourLeavesModel", name := "round", desc := "(I)I" } : Jvm.MethodName)) ∈ zTB := List.mem_filter.mpr ⟨List.mem_append_right _ (List.mem_append_right _ (List.mem_append_right _ (List.mem_append_right _ (List.mem_append_right _ (List.mem_append_right _ (List.mem_append_right _ (List.mem_append_right _ (List.mem_append_right _ (List.mem_of_getElem? (i := 0) rfl))))))))), rfl⟩
theorem wd_1918 : (Jvm.Cond.methodLink "ParlourLeavesLaw" (122 : Nat) ({ cls := "ParlourLeavesModel", name := "round", desc := "(I)I" } : Jvm.MethodName)) ∈ zTB := List.mem_filter.mpr ⟨List.mem_append_right _ (List.mem_append_right _ (List.mem_append_right _ (List.mem_append_right _ (List.mem_append_right _ (List.mem_append_right _ (List.mem_append_right _ (List.mem_append_right _ (List.mem_append_left _ (List.mem_of_getElem? (i := 238) rfl))))))))), rfl⟩
theorem wd_1919 : (Jvm.Cond.instanceMethod ({ cls := "ParlourLeavesModel", name := "round", desc := "(I)I" } : Jvm.MethodName)) ∈ zTB := List.mem_filter.mpr ⟨List.mem_append_right _ (List.mem_append_right _ (List.mem_append_right _ (List.mem_append_right _ (List.mem_append_right _ (List.mem_append_right _ (List.mem_append_right _ (List.mem_append_right _ (List.mem_append_left _ (List.mem_of_getElem? (i := 239) rfl))))))))), rfl⟩
theorem wd_1921 : (Jvm.Cond.code ({ cls := "ParlourLeavesModel", name := "round", desc := "(I)I" } : Jvm.MethodName) prog_14_method_86_code (7 : Nat) (Option.some Jvm.ClassFile.FieldType.int)) ∈ zTB := List.mem_filter.mpr ⟨List.mem_append_right _ (List.mem_append_right _ (List.mem_append_right _ (List.mem_append_right _ (List.mem_append_right _ (List.mem_append_right _ (List.mem_append_right _ (List.mem_append_right _ (List.mem_append_right _ (List.mem_of_getElem? (i := 1) rfl))))))))), rfl⟩
theorem cv_L_122 : zCV RL RX12 122 yX12_round cX12_round 7 (some .int) 1 := ⟨rfl, ⟨by decide, by decide, by decide +kernel⟩, wd_1918, wd_1919, wd_1920, wd_19, wd_1921⟩
theorem dL_law_888 : decode cL_law 888 = .ok (.if_icmp .eq 380, 3) := by decide +kernel
set_option maxHeartbeats 1000000 in
set_option maxRecDepth 100000 in
theorem law_22 {p : Program} {l : Launch} {e : Env} {s : State} {m : MethodId} {below : List Frame} {meth : Method} {c : Code} {D : va_G} {cy : Nat → ClassId} {kK kV q qm : Nat → Nat} {o b L i cells slots : Nat} {xs : Nat → Int32} {Q : State → Prop} (cx : zX RL cL_law 7 p s m #[Value.ref b] c D cy) (hE : zEn kK kV (zAL s) s) (hX : va_X b L xs s s.heap) (hbl : b < s.heap.size) (hL : L ≤ 3072) (hi : i + 6 ≤ L) (hcl : cells + 2 ≤ 601024) (hsl : slots + 68 ≤ 7293034) (hl0 : l.stackTraces = false)
    (KC : ∀ (H : Heap) (locs : List Loc) (ls : Array Slot) (c1 s1 : Nat), zIv D cy s q qm o H locs → lv_has ls 7 [(4, .int (nI i)), (0, .ref b), (1, .ref (q 0)), (2, .ref (qm 0)), (3, .ref o)] → c1 ≤ cells + 2 → s1 ≤ slots + 68 → W p l e room_1 s m #[Value.ref b] below meth c H locs c1 s1 Q (F0 m 1268 ls []))
    {H : Heap} {locs : List Loc} {ls : Array Slot} (hv : zIv D cy s q qm o H locs) (hl : lv_has ls 7 [(4, .int (nI i)), (0, .ref b), (1, .ref (q 0)), (2, .ref (qm 0)), (3, .ref o)]) : W p l e room_1 s m #[Value.ref b] below meth c H locs cells slots Q (F0 m 868 ls []) := by
  have hx := cx.1
  have hb := cx.2.1
  have hbA : ¬ zAL s b := Nat.not_le.mpr hbl
  have hRc : zRc cells slots room_1 := ⟨by show cells + 0 ≤ 601024; omega, by show slots + 0 ≤ 7293034; omega⟩
  have in1 : vp_in (nI i + (1 : Int32)) L := zl_in (j := 1) hi hL (by decide)
  obtain ⟨S, T, tx, u, f, r, hu, hse, hw, hS⟩ := hv
  obtain ⟨z, S', T', h1, h2, r2⟩ := ov_round r (xs (nI i + (1 : Int32)).toNatClampNeg)
  refine lv_aload_n (pc := 868) hx hb dL_law_868 rfl (lv_at hl 2 rfl) ?_
  refine lv_aload_n (pc := 869) hx hb dL_law_869 rfl (lv_at hl 1 rfl) ?_
  refine lv_iload (pc := 870) hx hb dL_law_870 (lv_at hl 0 rfl) ?_
  refine lv_iconst (pc := 872) hx hb dL_law_872 zc_1 ?_
  refine lv_iadd (pc := 873) hx hb dL_law_873 ?_
  refine va_sld (pc := 874) hx hb hX hbl hbA hS in1 dL_law_874 ?_
  refine zl_C (pc := 875) (As := [.int (xs (nI i + (1 : Int32)).toNatClampNeg)]) (rest := []) cx cv_L_119 hse (mX11_round hse.qC h1) ⟨⟨rfl, rfl⟩, Nat.le_of_ble_eq_true rfl, Nat.le_of_ble_eq_true rfl⟩ hRc hS hw hl.1 rfl rfl (Nat.le_of_ble_eq_true rfl) dL_law_875 (fun H locs hS hw => ?_)
  refine lv_aload_n (pc := 878) hx hb dL_law_878 rfl (lv_at hl 3 rfl) ?_
  refine lv_aload_n (pc := 879) hx hb dL_law_879 rfl (lv_at hl 1 rfl) ?_
  refine lv_iload (pc := 880) hx hb dL_law_880 (lv_at hl 0 rfl) ?_
  refine lv_iconst (pc := 882) hx hb dL_law_882 zc_1 ?_
  refine lv_iadd (pc := 883) hx hb dL_law_883 ?_
  refine va_sld (pc := 884) hx hb hX hbl hbA hS in1 dL_law_884 ?_
  refine zl_M (pc := 885) (As := [.int (xs (nI i + (1 : Int32)).toNatClampNeg)]) (rest := [.int z]) cx cv_L_122 hse (mX12_round hse.qM h2) ⟨⟨rfl, rfl⟩, Nat.le_of_ble_eq_true rfl, Nat.le_of_ble_eq_true rfl⟩ hRc hS hw hl.1 rfl rfl (Nat.le_of_ble_eq_true rfl) dL_law_885 (fun H locs hS hw => ?_)
  refine lv_icmp_eq (pc := 888) (tgt := 1268) hx hb dL_law_888 (by decide) (fun _ => ?_) (fun c0 => absurd rfl c0)
  exact KC _ _ ls _ _ ⟨S', T', tx, u, f, r2, hu, hse, hw, hS⟩ hl (by omega) (by omega)
theorem dL_law_893 : decode cL_law 893 = .ok (.aload_n 1, 1) := by decide +kernel
theorem dL_law_894 : decode cL_law 894 = .ok (.aload_n 0, 1) := by decide +kernel
theorem dL_law_895 : decode cL_law 895 = .ok (.iload 4, 2) := by decide +kernel
theorem dL_law_897 : decode cL_law 897 = .ok (.iconst 1, 1) := by decide +kernel
theorem dL_law_898 : decode cL_law 898 = .ok (.iadd, 1) := by decide +kernel
theorem dL_law_899 : decode cL_law 899 = .ok (.iaload, 1) := by decide +kernel
theorem dL_law_900 : decode cL_law 900 = .ok (.invokevirtual 123, 3) := by decide +kernel
theorem wd_961 : (Jvm.Cond.selects "ParlourLeaves" ({ cls := "ParlourLeaves", name := "roundAt", desc := "(I)I" } : Jvm.MethodName) ({ cls := "ParlourLeaves", name := "roundAt", desc := "(I)I" } : Jvm.MethodName)) ∈ zTB := List.mem_filter.mpr ⟨List.mem_append_right _ (List.mem_append_right _ (List.mem_append_right _ (List.mem_append_right _ (List.mem_append_right _ (List.mem_append_left _ (List.mem_of_getElem? (i := 1) rfl)))))), rfl⟩
theorem wd_959 : (Jvm.Cond.methodLink "ParlourLeavesLaw" (123 : Nat) ({ cls := "ParlourLeaves", name := "roundAt", desc := "(I)I" } : Jvm.MethodName)) ∈ zTB := List.mem_filter.mpr ⟨List.mem_append_right _ (List.mem_append_right _ (List.mem_append_right _ (List.mem_append_right _ (List.mem_append_left _ (List.mem_of_getElem? (i := 239) rfl))))), rfl⟩
theorem wd_960 : (Jvm.Cond.instanceMethod ({ cls := "ParlourLeaves", name := "roundAt", desc := "(I)I" } : Jvm.MethodName)) ∈ zTB := List.mem_filter.mpr ⟨List.mem_append_right _ (List.mem_append_right _ (List.mem_append_right _ (List.mem_append_right _ (List.mem_append_right _ (List.mem_append_left _ (List.mem_of_getElem? (i := 0) rfl)))))), rfl⟩
theorem wd_962 : (Jvm.Cond.code ({ cls := "ParlourLeaves", name := "roundAt", desc := "(I)I" } : Jvm.MethodName) prog_1_method_25_code (2 : Nat) (Option.some Jvm.ClassFile.FieldType.int)) ∈ zTB := List.mem_filter.mpr ⟨List.mem_append_right _ (List.mem_append_right _ (List.mem_append_right _ (List.mem_append_right _ (List.mem_append_right _ (List.mem_append_left _ (List.mem_of_getElem? (i := 2) rfl)))))), rfl⟩
theorem cv_L_123 : zCV RL RX11 123 yX11_roundAt cX11_roundAt 2 (some .int) 1 := ⟨rfl, ⟨by decide, by decide, by decide +kernel⟩, wd_959, wd_960, wd_961, wd_1, wd_962⟩
theorem dL_law_903 : decode cL_law 903 = .ok (.aload_n 2, 1) := by decide +kernel
theorem dL_law_904 : decode cL_law 904 = .ok (.aload_n 0, 1) := by decide +kernel
theorem dL_law_905 : decode cL_law 905 = .ok (.iload 4, 2) := by decide +kernel
theorem dL_law_907 : decode cL_law 907 = .ok (.iconst 1, 1) := by decide +kernel
theorem dL_law_908 : decode cL_law 908 = .ok (.iadd, 1) := by decide +kernel
theorem dL_law_909 : decode cL_law 909 = .ok (.iaload, 1) := by decide +kernel
theorem dL_law_910 : decode cL_law 910 = .ok (.invokevirtual 126, 3) := by decide +kernel
theorem wd_1931 : (Jvm.Cond.selects "ParlourLeavesModel" ({ cls := "ParlourLeavesModel", name := "roundAt", desc := "(I)I" } : Jvm.MethodName) ({ cls := "ParlourLeavesModel", name := "roundAt", desc := "(I)I" } : Jvm.MethodName)) ∈ zTB := List.mem_filter.mpr ⟨List.mem_append_right _ (List.mem_append_right _ (List.mem_append_right _ (List.mem_append_right _ (List.mem_append_right _ (List.mem_append_right _ (List.mem_append_right _ (List.mem_append_right _ (List.mem_append_right _ (List.mem_of_getElem? (i := 11) rfl))))))))), rfl⟩
theorem wd_1929 : (Jvm.Cond.methodLink "ParlourLeavesLaw" (126 : Nat) ({ cls := "ParlourLeavesModel", name := "roundAt", desc := "(I)I" } : Jvm.MethodName)) ∈ zTB := List.mem_filter.mpr ⟨List.mem_append_right _ (List.mem_append_right _ (List.mem_append_right _ (List.mem_append_right _ (List.mem_append_right _ (List.mem_append_right _ (List.mem_append_right _ (List.mem_append_right _ (List.mem_append_right _ (List.mem_of_getElem? (i := 9) rfl))))))))), rfl⟩
theorem wd_1930 : (Jvm.Cond.instanceMethod ({ cls := "ParlourLeavesModel", name := "roundAt", desc := "(I)I" } : Jvm.MethodName)) ∈ zTB := List.mem_filter.mpr ⟨List.mem_append_right _ (List.mem_append_right _ (List.mem_append_right _ (List.mem_append_right _ (List.mem_append_right _ (List.mem_append_right _ (List.mem_append_right _ (List.mem_append_right _ (List.mem_append_right _ (List.mem_of_getElem? (i := 10) rfl))))))))), rfl⟩
theorem wd_1932 : (Jvm.Cond.code ({ cls := "ParlourLeavesModel", name := "roundAt", desc := "(I)I" } : Jvm.MethodName) prog_14_method_87_code (2 : Nat) (Option.some Jvm.ClassFile.FieldType.int)) ∈ zTB := List.mem_filter.mpr ⟨List.mem_append_right _ (List.mem_append_right _ (List.mem_append_right _ (List.mem_append_right _ (List.mem_append_right _ (List.mem_append_right _ (List.mem_append_right _ (List.mem_append_right _ (List.mem_append_right _ (List.mem_of_getElem? (i := 12) rfl))))))))), rfl⟩
theorem cv_L_126 : zCV RL RX12 126 yX12_roundAt cX12_roundAt 2 (some .int) 1 := ⟨rfl, ⟨by decide, by decide, by decide +kernel⟩, wd_1929, wd_1930, wd_1931, wd_19, wd_1932⟩
theorem dL_law_913 : decode cL_law 913 = .ok (.if_icmp .eq 355, 3) := by decide +kernel
set_option maxHeartbeats 1000000 in
set_option maxRecDepth 100000 in
theorem law_23 {p : Program} {l : Launch} {e : Env} {s : State} {m : MethodId} {below : List Frame} {meth : Method} {c : Code} {D : va_G} {cy : Nat → ClassId} {kK kV q qm : Nat → Nat} {o b L i cells slots : Nat} {xs : Nat → Int32} {Q : State → Prop} (cx : zX RL cL_law 7 p s m #[Value.ref b] c D cy) (hE : zEn kK kV (zAL s) s) (hX : va_X b L xs s s.heap) (hbl : b < s.heap.size) (hL : L ≤ 3072) (hi : i + 6 ≤ L) (hcl : cells + 2 ≤ 601024) (hsl : slots + 68 ≤ 7293034) (hl0 : l.stackTraces = false)
    (KC : ∀ (H : Heap) (locs : List Loc) (ls : Array Slot) (c1 s1 : Nat), zIv D cy s q qm o H locs → lv_has ls 7 [(4, .int (nI i)), (0, .ref b), (1, .ref (q 0)), (2, .ref (qm 0)), (3, .ref o)] → c1 ≤ cells + 2 → s1 ≤ slots + 68 → W p l e room_1 s m #[Value.ref b] below meth c H locs c1 s1 Q (F0 m 1268 ls []))
    {H : Heap} {locs : List Loc} {ls : Array Slot} (hv : zIv D cy s q qm o H locs) (hl : lv_has ls 7 [(4, .int (nI i)), (0, .ref b), (1, .ref (q 0)), (2, .ref (qm 0)), (3, .ref o)]) : W p l e room_1 s m #[Value.ref b] below meth c H locs cells slots Q (F0 m 893 ls []) := by
  have hx := cx.1
  have hb := cx.2.1
  have hbA : ¬ zAL s b := Nat.not_le.mpr hbl
  have hRc : zRc cells slots room_1 := ⟨by show cells + 0 ≤ 601024; omega, by show slots + 0 ≤ 7293034; omega⟩
  have in1 : vp_in (nI i + (1 : Int32)) L := zl_in (j := 1) hi hL (by decide)
  obtain ⟨S, T, tx, u, f, r, hu, hse, hw, hS⟩ := hv
  obtain ⟨z, T', h1, h2, r2⟩ := ov_roundAt r (xs (nI i + (1 : Int32)).toNatClampNeg)
  refine lv_aload_n (pc := 893) hx hb dL_law_893 rfl (lv_at hl 2 rfl) ?_
  refine lv_aload_n (pc := 894) hx hb dL_law_894 rfl (lv_at hl 1 rfl) ?_
  refine lv_iload (pc := 895) hx hb dL_law_895 (lv_at hl 0 rfl) ?_
  refine lv_iconst (pc := 897) hx hb dL_law_897 zc_1 ?_
  refine lv_iadd (pc := 898) hx hb dL_law_898 ?_
  refine va_sld (pc := 899) hx hb hX hbl hbA hS in1 dL_law_899 ?_
  refine zr_VI (pc := 900) (As := [.int (xs (nI i + (1 : Int32)).toNatClampNeg)]) (rest := []) cx cv_L_123 (mX11_roundAt h1) ⟨⟨rfl, rfl⟩, Nat.le_of_ble_eq_true rfl, Nat.le_of_ble_eq_true rfl⟩ hRc hw.1 nC_0 sC_0 rfl hl.1 rfl rfl (Nat.le_of_ble_eq_true rfl) dL_law_900 ?_
  refine lv_aload_n (pc := 903) hx hb dL_law_903 rfl (lv_at hl 3 rfl) ?_
  refine lv_aload_n (pc := 904) hx hb dL_law_904 rfl (lv_at hl 1 rfl) ?_
  refine lv_iload (pc := 905) hx hb dL_law_905 (lv_at hl 0 rfl) ?_
  refine lv_iconst (pc := 907) hx hb dL_law_907 zc_1 ?_
  refine lv_iadd (pc := 908) hx hb dL_law_908 ?_
  refine va_sld (pc := 909) hx hb hX hbl hbA hS in1 dL_law_909 ?_
  refine zl_M (pc := 910) (As := [.int (xs (nI i + (1 : Int32)).toNatClampNeg)]) (rest := [.int z]) cx cv_L_126 hse (mX12_roundAt hse.qM h2) ⟨⟨rfl, rfl⟩, Nat.le_of_ble_eq_true rfl, Nat.le_of_ble_eq_true rfl⟩ hRc hS hw hl.1 rfl rfl (Nat.le_of_ble_eq_true rfl) dL_law_910 (fun H locs hS hw => ?_)
  refine lv_icmp_eq (pc := 913) (tgt := 1268) hx hb dL_law_913 (by decide) (fun _ => ?_) (fun c0 => absurd rfl c0)
  exact KC _ _ ls _ _ ⟨S, T', tx, u, f, r2, hu, hse, hw, hS⟩ hl (by omega) (by omega)
theorem dL_law_918 : decode cL_law 918 = .ok (.aload_n 1, 1) := by decide +kernel
theorem dL_law_919 : decode cL_law 919 = .ok (.invokevirtual 127, 3) := by decide +kernel
theorem wd_965 : (Jvm.Cond.selects "ParlourLeaves" ({ cls := "ParlourLeaves", name := "choice", desc := "()I" } : Jvm.MethodName) ({ cls := "ParlourLeaves", name := "choice", desc := "()I" } : Jvm.MethodName)) ∈ zTB := List.mem_filter.mpr ⟨List.mem_append_right _ (List.mem_append_right _ (List.mem_append_right _ (List.mem_append_right _ (List.mem_append_right _ (List.mem_append_left _ (List.mem_of_getElem? (i := 5) rfl)))))), rfl⟩
theorem wd_963 : (Jvm.Cond.methodLink "ParlourLeavesLaw" (127 : Nat) ({ cls := "ParlourLeaves", name := "choice", desc := "()I" } : Jvm.MethodName)) ∈ zTB := List.mem_filter.mpr ⟨List.mem_append_right _ (List.mem_append_right _ (List.mem_append_right _ (List.mem_append_right _ (List.mem_append_right _ (List.mem_append_left _ (List.mem_of_getElem? (i := 3) rfl)))))), rfl⟩
theorem wd_964 : (Jvm.Cond.instanceMethod ({ cls := "ParlourLeaves", name := "choice", desc := "()I" } : Jvm.MethodName)) ∈ zTB := List.mem_filter.mpr ⟨List.mem_append_right _ (List.mem_append_right _ (List.mem_append_right _ (List.mem_append_right _ (List.mem_append_right _ (List.mem_append_left _ (List.mem_of_getElem? (i := 4) rfl)))))), rfl⟩
theorem wd_966 : (Jvm.Cond.code ({ cls := "ParlourLeaves", name := "choice", desc := "()I" } : Jvm.MethodName) prog_1_method_26_code (1 : Nat) (Option.some Jvm.ClassFile.FieldType.int)) ∈ zTB := List.mem_filter.mpr ⟨List.mem_append_right _ (List.mem_append_right _ (List.mem_append_right _ (List.mem_append_right _ (List.mem_append_right _ (List.mem_append_left _ (List.mem_of_getElem? (i := 6) rfl)))))), rfl⟩
theorem cv_L_127 : zCV RL RX11 127 yX11_choice cX11_choice 1 (some .int) 0 := ⟨rfl, ⟨by decide, by decide, by decide +kernel⟩, wd_963, wd_964, wd_965, wd_1, wd_966⟩
theorem dL_law_922 : decode cL_law 922 = .ok (.aload_n 2, 1) := by decide +kernel
theorem dL_law_923 : decode cL_law 923 = .ok (.invokevirtual 130, 3) := by decide +kernel
theorem wd_1935 : (Jvm.Cond.selects "ParlourLeavesModel" ({ cls := "ParlourLeavesModel", name := "choice", desc := "()I" } : Jvm.MethodName) ({ cls := "ParlourLeavesModel", name := "choice", desc := "()I" } : Jvm.MethodName)) ∈ zTB := List.mem_filter.mpr ⟨List.mem_append_right _ (List.mem_append_right _ (List.mem_append_right _ (List.mem_append_right _ (List.mem_append_right _ (List.mem_append_right _ (List.mem_append_right _ (List.mem_append_right _ (List.mem_append_right _ (List.mem_of_getElem? (i := 15) rfl))))))))), rfl⟩
theorem wd_1933 : (Jvm.Cond.methodLink "ParlourLeavesLaw" (130 : Nat) ({ cls := "ParlourLeavesModel", name := "choice", desc := "()I" } : Jvm.MethodName)) ∈ zTB := List.mem_filter.mpr ⟨List.mem_append_right _ (List.mem_append_right _ (List.mem_append_right _ (List.mem_append_right _ (List.mem_append_right _ (List.mem_append_right _ (List.mem_append_right _ (List.mem_append_right _ (List.mem_append_right _ (List.mem_of_getElem? (i := 13) rfl))))))))), rfl⟩
theorem wd_1934 : (Jvm.Cond.instanceMethod ({ cls := "ParlourLeavesModel", name := "choice", desc := "()I" } : Jvm.MethodName)) ∈ zTB := List.mem_filter.mpr ⟨List.mem_append_right _ (List.mem_append_right _ (List.mem_append_right _ (List.mem_append_right _ (List.mem_append_right _ (List.mem_append_right _ (List.mem_append_right _ (List.mem_append_right _ (List.mem_append_right _ (List.mem_of_getElem? (i := 14) rfl))))))))), rfl⟩
theorem wd_1936 : (Jvm.Cond.code ({ cls := "ParlourLeavesModel", name := "choice", desc := "()I" } : Jvm.MethodName) prog_14_method_90_code (6 : Nat) (Option.some Jvm.ClassFile.FieldType.int)) ∈ zTB := List.mem_filter.mpr ⟨List.mem_append_right _ (List.mem_append_right _ (List.mem_append_right _ (List.mem_append_right _ (List.mem_append_right _ (List.mem_append_right _ (List.mem_append_right _ (List.mem_append_right _ (List.mem_append_right _ (List.mem_of_getElem? (i := 16) rfl))))))))), rfl⟩
theorem cv_L_130 : zCV RL RX12 130 yX12_choice cX12_choice 6 (some .int) 0 := ⟨rfl, ⟨by decide, by decide, by decide +kernel⟩, wd_1933, wd_1934, wd_1935, wd_19, wd_1936⟩
theorem dL_law_926 : decode cL_law 926 = .ok (.if_icmp .eq 342, 3) := by decide +kernel
set_option maxHeartbeats 1000000 in
set_option maxRecDepth 100000 in
theorem law_24 {p : Program} {l : Launch} {e : Env} {s : State} {m : MethodId} {below : List Frame} {meth : Method} {c : Code} {D : va_G} {cy : Nat → ClassId} {kK kV q qm : Nat → Nat} {o b L i cells slots : Nat} {xs : Nat → Int32} {Q : State → Prop} (cx : zX RL cL_law 7 p s m #[Value.ref b] c D cy) (hE : zEn kK kV (zAL s) s) (hX : va_X b L xs s s.heap) (hbl : b < s.heap.size) (hL : L ≤ 3072) (hi : i + 6 ≤ L) (hcl : cells + 2 ≤ 601024) (hsl : slots + 68 ≤ 7293034) (hl0 : l.stackTraces = false)
    (KC : ∀ (H : Heap) (locs : List Loc) (ls : Array Slot) (c1 s1 : Nat), zIv D cy s q qm o H locs → lv_has ls 7 [(4, .int (nI i)), (0, .ref b), (1, .ref (q 0)), (2, .ref (qm 0)), (3, .ref o)] → c1 ≤ cells + 2 → s1 ≤ slots + 68 → W p l e room_1 s m #[Value.ref b] below meth c H locs c1 s1 Q (F0 m 1268 ls []))
    {H : Heap} {locs : List Loc} {ls : Array Slot} (hv : zIv D cy s q qm o H locs) (hl : lv_has ls 7 [(4, .int (nI i)), (0, .ref b), (1, .ref (q 0)), (2, .ref (qm 0)), (3, .ref o)]) : W p l e room_1 s m #[Value.ref b] below meth c H locs cells slots Q (F0 m 918 ls []) := by
  have hx := cx.1
  have hb := cx.2.1
  have hbA : ¬ zAL s b := Nat.not_le.mpr hbl
  have hRc : zRc cells slots room_1 := ⟨by show cells + 0 ≤ 601024; omega, by show slots + 0 ≤ 7293034; omega⟩
  obtain ⟨S, T, tx, u, f, r, hu, hse, hw, hS⟩ := hv
  obtain ⟨z, S', T', h1, h2, r2⟩ := ov_choice r 
  refine lv_aload_n (pc := 918) hx hb dL_law_918 rfl (lv_at hl 2 rfl) ?_
  refine zl_C (pc := 919) (As := []) (rest := []) cx cv_L_127 hse (mX11_choice hse.qC h1) ⟨⟨rfl, rfl⟩, Nat.le_of_ble_eq_true rfl, Nat.le_of_ble_eq_true rfl⟩ hRc hS hw hl.1 rfl rfl (Nat.le_of_ble_eq_true rfl) dL_law_919 (fun H locs hS hw => ?_)
  refine lv_aload_n (pc := 922) hx hb dL_law_922 rfl (lv_at hl 3 rfl) ?_
  refine zl_M (pc := 923) (As := []) (rest := [.int z]) cx cv_L_130 hse (mX12_choice hse.qM h2) ⟨⟨rfl, rfl⟩, Nat.le_of_ble_eq_true rfl, Nat.le_of_ble_eq_true rfl⟩ hRc hS hw hl.1 rfl rfl (Nat.le_of_ble_eq_true rfl) dL_law_923 (fun H locs hS hw => ?_)
  refine lv_icmp_eq (pc := 926) (tgt := 1268) hx hb dL_law_926 (by decide) (fun _ => ?_) (fun c0 => absurd rfl c0)
  exact KC _ _ ls _ _ ⟨S', T', tx, u, f, r2, hu, hse, hw, hS⟩ hl (by omega) (by omega)
theorem dL_law_931 : decode cL_law 931 = .ok (.aload_n 1, 1) := by decide +kernel
theorem dL_law_932 : decode cL_law 932 = .ok (.aload_n 0, 1) := by decide +kernel
theorem dL_law_933 : decode cL_law 933 = .ok (.iload 4, 2) := by decide +kernel
theorem dL_law_935 : decode cL_law 935 = .ok (.iconst 1, 1) := by decide +kernel
theorem dL_law_936 : decode cL_law 936 = .ok (.iadd, 1) := by decide +kernel
theorem dL_law_937 : decode cL_law 937 = .ok (.iaload, 1) := by decide +kernel
theorem dL_law_938 : decode cL_law 938 = .ok (.invokevirtual 131, 3) := by decide +kernel
theorem wd_982 : (Jvm.Cond.selects "ParlourLeaves" ({ cls := "ParlourLeaves", name := "chosen", desc := "(I)I" } : Jvm.MethodName) ({ cls := "ParlourLeaves", name := "chosen", desc := "(I)I" } : Jvm.MethodName)) ∈ zTB := List.mem_filter.mpr ⟨List.mem_append_right _ (List.mem_append_right _ (List.mem_append_right _ (List.mem_append_right _ (List.mem_append_right _ (List.mem_append_left _ (List.mem_of_getElem? (i := 22) rfl)))))), rfl⟩
theorem wd_980 : (Jvm.Cond.methodLink "ParlourLeavesLaw" (131 : Nat) ({ cls := "ParlourLeaves", name := "chosen", desc := "(I)I" } : Jvm.MethodName)) ∈ zTB := List.mem_filter.mpr ⟨List.mem_append_right _ (List.mem_append_right _ (List.mem_append_right _ (List.mem_append_right _ (List.mem_append_right _ (List.mem_append_left _ (List.mem_of_getElem? (i := 20) rfl)))))), rfl⟩
theorem wd_981 : (Jvm.Cond.instanceMethod ({ cls := "ParlourLeaves", name := "chosen", desc := "(I)I" } : Jvm.MethodName)) ∈ zTB := List.mem_filter.mpr ⟨List.mem_append_right _ (List.mem_append_right _ (List.mem_append_right _ (List.mem_append_right _ (List.mem_append_right _ (List.mem_append_left _ (List.mem_of_getElem? (i := 21) rfl)))))), rfl⟩
theorem wd_983 : (Jvm.Cond.code ({ cls := "ParlourLeaves", name := "chosen", desc := "(I)I" } : Jvm.MethodName) prog_1_method_27_code (2 : Nat) (Option.some Jvm.ClassFile.FieldType.int)) ∈ zTB := List.mem_filter.mpr ⟨List.mem_append_right _ (List.mem_append_right _ (List.mem_append_right _ (List.mem_append_right _ (List.mem_append_right _ (List.mem_append_left _ (List.mem_of_getElem? (i := 23) rfl)))))), rfl⟩
theorem cv_L_131 : zCV RL RX11 131 yX11_chosen cX11_chosen 2 (some .int) 1 := ⟨rfl, ⟨by decide, by decide, by decide +kernel⟩, wd_980, wd_981, wd_982, wd_1, wd_983⟩
theorem dL_law_941 : decode cL_law 941 = .ok (.aload_n 2, 1) := by decide +kernel
theorem dL_law_942 : decode cL_law 942 = .ok (.aload_n 0, 1) := by decide +kernel
theorem dL_law_943 : decode cL_law 943 = .ok (.iload 4, 2) := by decide +kernel
theorem dL_law_945 : decode cL_law 945 = .ok (.iconst 1, 1) := by decide +kernel
theorem dL_law_946 : decode cL_law 946 = .ok (.iadd, 1) := by decide +kernel
theorem dL_law_947 : decode cL_law 947 = .ok (.iaload, 1) := by decide +kernel
theorem dL_law_948 : decode cL_law 948 = .ok (.invokevirtual 134, 3) := by decide +kernel
theorem wd_1947 : (Jvm.Cond.selects "ParlourLeavesModel" ({ cls := "ParlourLeavesModel", name := "chosen", desc := "(I)I" } : Jvm.MethodName) ({ cls := "ParlourLeavesModel", name := "chosen", desc := "(I)I" } : Jvm.MethodName)) ∈ zTB := List.mem_filter.mpr ⟨List.mem_append_right _ (List.mem_append_right _ (List.mem_append_right _ (List.mem_append_right _ (List.mem_append_right _ (List.mem_append_right _ (List.mem_append_right _ (List.mem_append_right _ (List.mem_append_right _ (List.mem_of_getElem? (i := 27) rfl))))))))), rfl⟩
theorem wd_1945 : (Jvm.Cond.methodLink "ParlourLeavesLaw" (134 : Nat) ({ cls := "ParlourLeavesModel", name := "chosen", desc := "(I)I" } : Jvm.MethodName)) ∈ zTB := List.mem_filter.mpr ⟨List.mem_append_right _ (List.mem_append_right _ (List.mem_append_right _ (List.mem_append_right _ (List.mem_append_right _ (List.mem_append_right _ (List.mem_append_right _ (List.mem_append_right _ (List.mem_append_right _ (List.mem_of_getElem? (i := 25) rfl))))))))), rfl⟩
theorem wd_1946 : (Jvm.Cond.instanceMethod ({ cls := "ParlourLeavesModel", name := "chosen", desc := "(I)I" } : Jvm.MethodName)) ∈ zTB := List.mem_filter.mpr ⟨List.mem_append_right _ (List.mem_append_right _ (List.mem_append_right _ (List.mem_append_right _ (List.mem_append_right _ (List.mem_append_right _ (List.mem_append_right _ (List.mem_append_right _ (List.mem_append_right _ (List.mem_of_getElem? (i := 26) rfl))))))))), rfl⟩
theorem wd_1948 : (Jvm.Cond.code ({ cls := "ParlourLeavesModel", name := "chosen", desc := "(I)I" } : Jvm.MethodName) prog_14_method_91_code (2 : Nat) (Option.some Jvm.ClassFile.FieldType.int)) ∈ zTB := List.mem_filter.mpr ⟨List.mem_append_right _ (List.mem_append_right _ (List.mem_append_right _ (List.mem_append_right _ (List.mem_append_right _ (List.mem_append_right _ (List.mem_append_right _ (List.mem_append_right _ (List.mem_append_right _ (List.mem_of_getElem? (i := 28) rfl))))))))), rfl⟩
theorem cv_L_134 : zCV RL RX12 134 yX12_chosen cX12_chosen 2 (some .int) 1 := ⟨rfl, ⟨by decide, by decide, by decide +kernel⟩, wd_1945, wd_1946, wd_1947, wd_19, wd_1948⟩
theorem dL_law_951 : decode cL_law 951 = .ok (.if_icmp .eq 317, 3) := by decide +kernel
set_option maxHeartbeats 1000000 in
set_option maxRecDepth 100000 in
theorem law_25 {p : Program} {l : Launch} {e : Env} {s : State} {m : MethodId} {below : List Frame} {meth : Method} {c : Code} {D : va_G} {cy : Nat → ClassId} {kK kV q qm : Nat → Nat} {o b L i cells slots : Nat} {xs : Nat → Int32} {Q : State → Prop} (cx : zX RL cL_law 7 p s m #[Value.ref b] c D cy) (hE : zEn kK kV (zAL s) s) (hX : va_X b L xs s s.heap) (hbl : b < s.heap.size) (hL : L ≤ 3072) (hi : i + 6 ≤ L) (hcl : cells + 2 ≤ 601024) (hsl : slots + 68 ≤ 7293034) (hl0 : l.stackTraces = false)
    (KC : ∀ (H : Heap) (locs : List Loc) (ls : Array Slot) (c1 s1 : Nat), zIv D cy s q qm o H locs → lv_has ls 7 [(4, .int (nI i)), (0, .ref b), (1, .ref (q 0)), (2, .ref (qm 0)), (3, .ref o)] → c1 ≤ cells + 2 → s1 ≤ slots + 68 → W p l e room_1 s m #[Value.ref b] below meth c H locs c1 s1 Q (F0 m 1268 ls []))
    {H : Heap} {locs : List Loc} {ls : Array Slot} (hv : zIv D cy s q qm o H locs) (hl : lv_has ls 7 [(4, .int (nI i)), (0, .ref b), (1, .ref (q 0)), (2, .ref (qm 0)), (3, .ref o)]) : W p l e room_1 s m #[Value.ref b] below meth c H locs cells slots Q (F0 m 931 ls []) := by
  have hx := cx.1
  have hb := cx.2.1
  have hbA : ¬ zAL s b := Nat.not_le.mpr hbl
  have hRc : zRc cells slots room_1 := ⟨by show cells + 0 ≤ 601024; omega, by show slots + 0 ≤ 7293034; omega⟩
  have in1 : vp_in (nI i + (1 : Int32)) L := zl_in (j := 1) hi hL (by decide)
  obtain ⟨S, T, tx, u, f, r, hu, hse, hw, hS⟩ := hv
  obtain ⟨z, T', h1, h2, r2⟩ := ov_chosen r (xs (nI i + (1 : Int32)).toNatClampNeg)
  refine lv_aload_n (pc := 931) hx hb dL_law_931 rfl (lv_at hl 2 rfl) ?_
  refine lv_aload_n (pc := 932) hx hb dL_law_932 rfl (lv_at hl 1 rfl) ?_
  refine lv_iload (pc := 933) hx hb dL_law_933 (lv_at hl 0 rfl) ?_
  refine lv_iconst (pc := 935) hx hb dL_law_935 zc_1 ?_
  refine lv_iadd (pc := 936) hx hb dL_law_936 ?_
  refine va_sld (pc := 937) hx hb hX hbl hbA hS in1 dL_law_937 ?_
  refine zr_VI (pc := 938) (As := [.int (xs (nI i + (1 : Int32)).toNatClampNeg)]) (rest := []) cx cv_L_131 (mX11_chosen h1) ⟨⟨rfl, rfl⟩, Nat.le_of_ble_eq_true rfl, Nat.le_of_ble_eq_true rfl⟩ hRc hw.1 nC_0 sC_0 rfl hl.1 rfl rfl (Nat.le_of_ble_eq_true rfl) dL_law_938 ?_
  refine lv_aload_n (pc := 941) hx hb dL_law_941 rfl (lv_at hl 3 rfl) ?_
  refine lv_aload_n (pc := 942) hx hb dL_law_942 rfl (lv_at hl 1 rfl) ?_
  refine lv_iload (pc := 943) hx hb dL_law_943 (lv_at hl 0 rfl) ?_
  refine lv_iconst (pc := 945) hx hb dL_law_945 zc_1 ?_
  refine lv_iadd (pc := 946) hx hb dL_law_946 ?_
  refine va_sld (pc := 947) hx hb hX hbl hbA hS in1 dL_law_947 ?_
  refine zl_M (pc := 948) (As := [.int (xs (nI i + (1 : Int32)).toNatClampNeg)]) (rest := [.int z]) cx cv_L_134 hse (mX12_chosen hse.qM h2) ⟨⟨rfl, rfl⟩, Nat.le_of_ble_eq_true rfl, Nat.le_of_ble_eq_true rfl⟩ hRc hS hw hl.1 rfl rfl (Nat.le_of_ble_eq_true rfl) dL_law_948 (fun H locs hS hw => ?_)
  refine lv_icmp_eq (pc := 951) (tgt := 1268) hx hb dL_law_951 (by decide) (fun _ => ?_) (fun c0 => absurd rfl c0)
  exact KC _ _ ls _ _ ⟨S, T', tx, u, f, r2, hu, hse, hw, hS⟩ hl (by omega) (by omega)
theorem dL_law_956 : decode cL_law 956 = .ok (.aload_n 1, 1) := by decide +kernel
theorem dL_law_957 : decode cL_law 957 = .ok (.invokevirtual 135, 3) := by decide +kernel
theorem wd_986 : (Jvm.Cond.selects "ParlourLeaves" ({ cls := "ParlourLeaves", name := "elder", desc := "()I" } : Jvm.MethodName) ({ cls := "ParlourLeaves", name := "elder", desc := "()I" } : Jvm.MethodName)) ∈ zTB := List.mem_filter.mpr ⟨List.mem_append_right _ (List.mem_append_right _ (List.mem_append_right _ (List.mem_append_right _ (List.mem_append_right _ (List.mem_append_left _ (List.mem_of_getElem? (i := 26) rfl)))))), rfl⟩
theorem wd_984 : (Jvm.Cond.methodLink "ParlourLeavesLaw" (135 : Nat) ({ cls := "ParlourLeaves", name := "elder", desc := "()I" } : Jvm.MethodName)) ∈ zTB := List.mem_filter.mpr ⟨List.mem_append_right _ (List.mem_append_right _ (List.mem_append_right _ (List.mem_append_right _ (List.mem_append_right _ (List.mem_append_left _ (List.mem_of_getElem? (i := 24) rfl)))))), rfl⟩
theorem wd_985 : (Jvm.Cond.instanceMethod ({ cls := "ParlourLeaves", name := "elder", desc := "()I" } : Jvm.MethodName)) ∈ zTB := List.mem_filter.mpr ⟨List.mem_append_right _ (List.mem_append_right _ (List.mem_append_right _ (List.mem_append_right _ (List.mem_append_right _ (List.mem_append_left _ (List.mem_of_getElem? (i := 25) rfl)))))), rfl⟩
theorem wd_987 : (Jvm.Cond.code ({ cls := "ParlourLeaves", name := "elder", desc := "()I" } : Jvm.MethodName) prog_1_method_28_code (5 : Nat) (Option.some Jvm.ClassFile.FieldType.int)) ∈ zTB := List.mem_filter.mpr ⟨List.mem_append_right _ (List.mem_append_right _ (List.mem_append_right _ (List.mem_append_right _ (List.mem_append_right _ (List.mem_append_left _ (List.mem_of_getElem? (i := 27) rfl)))))), rfl⟩
theorem cv_L_135 : zCV RL RX11 135 yX11_elder cX11_elder 5 (some .int) 0 := ⟨rfl, ⟨by decide, by decide, by decide +kernel⟩, wd_984, wd_985, wd_986, wd_1, wd_987⟩
theorem dL_law_960 : decode cL_law 960 = .ok (.aload_n 2, 1) := by decide +kernel
theorem dL_law_961 : decode cL_law 961 = .ok (.invokevirtual 138, 3) := by decide +kernel
theorem wd_1951 : (Jvm.Cond.selects "ParlourLeavesModel" ({ cls := "ParlourLeavesModel", name := "elder", desc := "()I" } : Jvm.MethodName) ({ cls := "ParlourLeavesModel", name := "elder", desc := "()I" } : Jvm.MethodName)) ∈ zTB := List.mem_filter.mpr ⟨List.mem_append_right _ (List.mem_append_right _ (List.mem_append_right _ (List.mem_append_right _ (List.mem_append_right _ (List.mem_append_right _ (List.mem_append_right _ (List.mem_append_right _ (List.mem_append_right _ (List.mem_of_getElem? (i := 31) rfl))))))))), rfl⟩
theorem wd_1949 : (Jvm.Cond.methodLink "ParlourLeavesLaw" (138 : Nat) ({ cls := "ParlourLeavesModel", name := "elder", desc := "()I" } : Jvm.MethodName)) ∈ zTB := List.mem_filter.mpr ⟨List.mem_append_right _ (List.mem_append_right _ (List.mem_append_right _ (List.mem_append_right _ (List.mem_append_right _ (List.mem_append_right _ (List.mem_append_right _ (List.mem_append_right _ (List.mem_append_right _ (List.mem_of_getElem? (i := 29) rfl))))))))), rfl⟩
theorem wd_1950 : (Jvm.Cond.instanceMethod ({ cls := "ParlourLeavesModel", name := "elder", desc := "()I" } : Jvm.MethodName)) ∈ zTB := List.mem_filter.mpr ⟨List.mem_append_right _ (List.mem_append_right _ (List.mem_append_right _ (List.mem_append_right _ (List.mem_append_right _ (List.mem_append_right _ (List.mem_append_right _ (List.mem_append_right _ (List.mem_append_right _ (List.mem_of_getElem? (i := 30) rfl))))))))), rfl⟩
theorem wd_1952 : (Jvm.Cond.code ({ cls := "ParlourLeavesModel", name := "elder", desc := "()I" } : Jvm.MethodName) prog_14_method_92_code (5 : Nat) (Option.some Jvm.ClassFile.FieldType.int)) ∈ zTB := List.mem_filter.mpr ⟨List.mem_append_right _ (List.mem_append_right _ (List.mem_append_right _ (List.mem_append_right _ (List.mem_append_right _ (List.mem_append_right _ (List.mem_append_right _ (List.mem_append_right _ (List.mem_append_right _ (List.mem_of_getElem? (i := 32) rfl))))))))), rfl⟩
theorem cv_L_138 : zCV RL RX12 138 yX12_elder cX12_elder 5 (some .int) 0 := ⟨rfl, ⟨by decide, by decide, by decide +kernel⟩, wd_1949, wd_1950, wd_1951, wd_19, wd_1952⟩
theorem dL_law_964 : decode cL_law 964 = .ok (.if_icmp .eq 304, 3) := by decide +kernel
set_option maxHeartbeats 1000000 in
set_option maxRecDepth 100000 in
theorem law_26 {p : Program} {l : Launch} {e : Env} {s : State} {m : MethodId} {below : List Frame} {meth : Method} {c : Code} {D : va_G} {cy : Nat → ClassId} {kK kV q qm : Nat → Nat} {o b L i cells slots : Nat} {xs : Nat → Int32} {Q : State → Prop} (cx : zX RL cL_law 7 p s m #[Value.ref b] c D cy) (hE : zEn kK kV (zAL s) s) (hX : va_X b L xs s s.heap) (hbl : b < s.heap.size) (hL : L ≤ 3072) (hi : i + 6 ≤ L) (hcl : cells + 2 ≤ 601024) (hsl : slots + 68 ≤ 7293034) (hl0 : l.stackTraces = false)
    (KC : ∀ (H : Heap) (locs : List Loc) (ls : Array Slot) (c1 s1 : Nat), zIv D cy s q qm o H locs → lv_has ls 7 [(4, .int (nI i)), (0, .ref b), (1, .ref (q 0)), (2, .ref (qm 0)), (3, .ref o)] → c1 ≤ cells + 2 → s1 ≤ slots + 68 → W p l e room_1 s m #[Value.ref b] below meth c H locs c1 s1 Q (F0 m 1268 ls []))
    {H : Heap} {locs : List Loc} {ls : Array Slot} (hv : zIv D cy s q qm o H locs) (hl : lv_has ls 7 [(4, .int (nI i)), (0, .ref b), (1, .ref (q 0)), (2, .ref (qm 0)), (3, .ref o)]) : W p l e room_1 s m #[Value.ref b] below meth c H locs cells slots Q (F0 m 956 ls []) := by
  have hx := cx.1
  have hb := cx.2.1
  have hbA : ¬ zAL s b := Nat.not_le.mpr hbl
  have hRc : zRc cells slots room_1 := ⟨by show cells + 0 ≤ 601024; omega, by show slots + 0 ≤ 7293034; omega⟩
  obtain ⟨S, T, tx, u, f, r, hu, hse, hw, hS⟩ := hv
  obtain ⟨z, T', h1, h2, r2⟩ := ov_elder r 
  refine lv_aload_n (pc := 956) hx hb dL_law_956 rfl (lv_at hl 2 rfl) ?_
  refine zr_VI (pc := 957) (As := []) (rest := []) cx cv_L_135 (mX11_elder h1) ⟨⟨rfl, rfl⟩, Nat.le_of_ble_eq_true rfl, Nat.le_of_ble_eq_true rfl⟩ hRc hw.1 nC_0 sC_0 rfl hl.1 rfl rfl (Nat.le_of_ble_eq_true rfl) dL_law_957 ?_
  refine lv_aload_n (pc := 960) hx hb dL_law_960 rfl (lv_at hl 3 rfl) ?_
  refine zl_M (pc := 961) (As := []) (rest := [.int z]) cx cv_L_138 hse (mX12_elder hse.qM h2) ⟨⟨rfl, rfl⟩, Nat.le_of_ble_eq_true rfl, Nat.le_of_ble_eq_true rfl⟩ hRc hS hw hl.1 rfl rfl (Nat.le_of_ble_eq_true rfl) dL_law_961 (fun H locs hS hw => ?_)
  refine lv_icmp_eq (pc := 964) (tgt := 1268) hx hb dL_law_964 (by decide) (fun _ => ?_) (fun c0 => absurd rfl c0)
  exact KC _ _ ls _ _ ⟨S, T', tx, u, f, r2, hu, hse, hw, hS⟩ hl (by omega) (by omega)
theorem zr_cwVg {own C : String} {index : Nat} {y : MethodName} {bytes cc : ByteArray} {maxL nL n mc ms : Nat} {ret : Option FieldType} {R rm : Room} {p : Program} {s : State} {m : MethodId} {args : Array Value} {c : Code} {D : va_G} {cy : Nat → ClassId} (cx : zX own cc nL p s m args c D cy) (cv : zCV own C index y bytes maxL ret n) (h1 : rm.cells = mc) (h2 : rm.slots = ms) (hR : rm.frames + 1 ≤ R.frames ∧ 8 + (maxL + 11) + rm.locals ≤ R.locals) : CallW R s args own C index y bytes maxL ret (Cond.code y bytes maxL ret :: zTB) rm mc ms n := by
  obtain ⟨hx, hb, -, hown, hts, hK, hKn⟩ := cx
  obtain ⟨e1, h3, w1, w2, w3, w4, w5⟩ := cv
  subst e1
  exact ⟨callB_of n hts (zGoodC w5) rfl h1 h2 (hts _ w4) (hts _ w1) h3 hR, hts _ w2, hts _ w3⟩
theorem zSe_b {A0 : Nat → Prop} {q qm : Nat → Nat} {o : Nat} {u u2 : zU} {D : va_G} {cy : Nat → ClassId} {S T : zSt} {n n2 : Int32} {f : Nat → Int64} {H : Heap} (h : zSe A0 q qm u.1 o) (hw : zLw D cy q qm o S T n u f H) (hsub : ∀ a, (a = q 262 ∨ a = u.1 ∨ H.size ≤ a) → A0 a) (hD : va_D (fun a => a = q 262 ∨ a = u.1 ∨ H.size ≤ a) (zBx cy (q 262) n2 u2)) : zSe A0 q qm u2.1 o := by
  have hr := hD.2 1 _ rfl
  have hne : q 262 ≠ u2.1 := fun e => by
    have := hD.1 0 1 _ _ rfl rfl e
    omega
  rcases hr with e | e | e
  · exact absurd e.symm hne
  · have e : u2.1 = u.1 := e
    rw [e]
    exact h
  · have e : H.size ≤ u2.1 := e
    obtain ⟨a1, a2, a3, a4, a5, a6, a7, a8, a9, a10⟩ := h
    refine ⟨a1, fun k hk e2 => ?_, hsub _ (Or.inr (Or.inr e)), a4, a5, fun j hj e2 => ?_, a7, a8, a9, fun e2 => ?_⟩
    · by_cases h2 : k = 262
      · subst h2; exact hne e2
      · have := (hw.1 k _ (zW_at (show k < 262 by omega) rfl)).lt
        have : q k < H.size := this
        omega
    · have := (hw.2.2.1 j _ (zW_at (show j < 19 by omega) rfl)).lt
      have : qm j < H.size := this
      omega
    · have := (hw.2.2.2 0 _ rfl).lt
      have : o < H.size := this
      omega
theorem dL_law_969 : decode cL_law 969 = .ok (.aload_n 1, 1) := by decide +kernel
theorem dL_law_970 : decode cL_law 970 = .ok (.aload_n 0, 1) := by decide +kernel
theorem dL_law_971 : decode cL_law 971 = .ok (.iload 4, 2) := by decide +kernel
theorem dL_law_973 : decode cL_law 973 = .ok (.iconst 1, 1) := by decide +kernel
theorem dL_law_974 : decode cL_law 974 = .ok (.iadd, 1) := by decide +kernel
theorem dL_law_975 : decode cL_law 975 = .ok (.iaload, 1) := by decide +kernel
theorem dL_law_976 : decode cL_law 976 = .ok (.invokevirtual 139, 3) := by decide +kernel
theorem wd_991 : (Jvm.Cond.selects "ParlourLeaves" ({ cls := "ParlourLeaves", name := "card", desc := "(I)I" } : Jvm.MethodName) ({ cls := "ParlourLeaves", name := "card", desc := "(I)I" } : Jvm.MethodName)) ∈ zTB := List.mem_filter.mpr ⟨List.mem_append_right _ (List.mem_append_right _ (List.mem_append_right _ (List.mem_append_right _ (List.mem_append_right _ (List.mem_append_left _ (List.mem_of_getElem? (i := 31) rfl)))))), rfl⟩
theorem wd_989 : (Jvm.Cond.methodLink "ParlourLeavesLaw" (139 : Nat) ({ cls := "ParlourLeaves", name := "card", desc := "(I)I" } : Jvm.MethodName)) ∈ zTB := List.mem_filter.mpr ⟨List.mem_append_right _ (List.mem_append_right _ (List.mem_append_right _ (List.mem_append_right _ (List.mem_append_right _ (List.mem_append_left _ (List.mem_of_getElem? (i := 29) rfl)))))), rfl⟩
theorem wd_990 : (Jvm.Cond.instanceMethod ({ cls := "ParlourLeaves", name := "card", desc := "(I)I" } : Jvm.MethodName)) ∈ zTB := List.mem_filter.mpr ⟨List.mem_append_right _ (List.mem_append_right _ (List.mem_append_right _ (List.mem_append_right _ (List.mem_append_right _ (List.mem_append_left _ (List.mem_of_getElem? (i := 30) rfl)))))), rfl⟩
theorem wd_992 : (Jvm.Cond.code ({ cls := "ParlourLeaves", name := "card", desc := "(I)I" } : Jvm.MethodName) prog_1_method_29_code (2 : Nat) (Option.some Jvm.ClassFile.FieldType.int)) ∈ zTB := List.mem_filter.mpr ⟨List.mem_append_right _ (List.mem_append_right _ (List.mem_append_right _ (List.mem_append_right _ (List.mem_append_right _ (List.mem_append_left _ (List.mem_of_getElem? (i := 32) rfl)))))), rfl⟩
theorem cv_L_139 : zCV RL RX11 139 yX11_card cX11_card 2 (some .int) 1 := ⟨rfl, ⟨by decide, by decide, by decide +kernel⟩, wd_989, wd_990, wd_991, wd_1, wd_992⟩
theorem dL_law_979 : decode cL_law 979 = .ok (.aload_n 2, 1) := by decide +kernel
theorem dL_law_980 : decode cL_law 980 = .ok (.aload_n 0, 1) := by decide +kernel
theorem dL_law_981 : decode cL_law 981 = .ok (.iload 4, 2) := by decide +kernel
theorem dL_law_983 : decode cL_law 983 = .ok (.iconst 1, 1) := by decide +kernel
theorem dL_law_984 : decode cL_law 984 = .ok (.iadd, 1) := by decide +kernel
theorem dL_law_985 : decode cL_law 985 = .ok (.iaload, 1) := by decide +kernel
theorem dL_law_986 : decode cL_law 986 = .ok (.invokevirtual 142, 3) := by decide +kernel
theorem wd_1955 : (Jvm.Cond.selects "ParlourLeavesModel" ({ cls := "ParlourLeavesModel", name := "card", desc := "(I)I" } : Jvm.MethodName) ({ cls := "ParlourLeavesModel", name := "card", desc := "(I)I" } : Jvm.MethodName)) ∈ zTB := List.mem_filter.mpr ⟨List.mem_append_right _ (List.mem_append_right _ (List.mem_append_right _ (List.mem_append_right _ (List.mem_append_right _ (List.mem_append_right _ (List.mem_append_right _ (List.mem_append_right _ (List.mem_append_right _ (List.mem_of_getElem? (i := 35) rfl))))))))), rfl⟩
theorem wd_1953 : (Jvm.Cond.methodLink "ParlourLeavesLaw" (142 : Nat) ({ cls := "ParlourLeavesModel", name := "card", desc := "(I)I" } : Jvm.MethodName)) ∈ zTB := List.mem_filter.mpr ⟨List.mem_append_right _ (List.mem_append_right _ (List.mem_append_right _ (List.mem_append_right _ (List.mem_append_right _ (List.mem_append_right _ (List.mem_append_right _ (List.mem_append_right _ (List.mem_append_right _ (List.mem_of_getElem? (i := 33) rfl))))))))), rfl⟩
theorem wd_1954 : (Jvm.Cond.instanceMethod ({ cls := "ParlourLeavesModel", name := "card", desc := "(I)I" } : Jvm.MethodName)) ∈ zTB := List.mem_filter.mpr ⟨List.mem_append_right _ (List.mem_append_right _ (List.mem_append_right _ (List.mem_append_right _ (List.mem_append_right _ (List.mem_append_right _ (List.mem_append_right _ (List.mem_append_right _ (List.mem_append_right _ (List.mem_of_getElem? (i := 34) rfl))))))))), rfl⟩
theorem wd_1956 : (Jvm.Cond.code ({ cls := "ParlourLeavesModel", name := "card", desc := "(I)I" } : Jvm.MethodName) prog_14_method_97_code (2 : Nat) (Option.some Jvm.ClassFile.FieldType.int)) ∈ zTB := List.mem_filter.mpr ⟨List.mem_append_right _ (List.mem_append_right _ (List.mem_append_right _ (List.mem_append_right _ (List.mem_append_right _ (List.mem_append_right _ (List.mem_append_right _ (List.mem_append_right _ (List.mem_append_right _ (List.mem_of_getElem? (i := 36) rfl))))))))), rfl⟩
theorem cv_L_142 : zCV RL RX12 142 yX12_card cX12_card 2 (some .int) 1 := ⟨rfl, ⟨by decide, by decide, by decide +kernel⟩, wd_1953, wd_1954, wd_1955, wd_19, wd_1956⟩
theorem dL_law_989 : decode cL_law 989 = .ok (.if_icmp .eq 279, 3) := by decide +kernel
set_option maxHeartbeats 1000000 in
set_option maxRecDepth 100000 in
theorem law_27 {p : Program} {l : Launch} {e : Env} {s : State} {m : MethodId} {below : List Frame} {meth : Method} {c : Code} {D : va_G} {cy : Nat → ClassId} {kK kV q qm : Nat → Nat} {o b L i cells slots : Nat} {xs : Nat → Int32} {Q : State → Prop} (cx : zX RL cL_law 7 p s m #[Value.ref b] c D cy) (hE : zEn kK kV (zAL s) s) (hX : va_X b L xs s s.heap) (hbl : b < s.heap.size) (hL : L ≤ 3072) (hi : i + 6 ≤ L) (hcl : cells + 2 ≤ 601024) (hsl : slots + 68 ≤ 7293034) (hl0 : l.stackTraces = false)
    (KC : ∀ (H : Heap) (locs : List Loc) (ls : Array Slot) (c1 s1 : Nat), zIv D cy s q qm o H locs → lv_has ls 7 [(4, .int (nI i)), (0, .ref b), (1, .ref (q 0)), (2, .ref (qm 0)), (3, .ref o)] → c1 ≤ cells + 2 → s1 ≤ slots + 68 → W p l e room_1 s m #[Value.ref b] below meth c H locs c1 s1 Q (F0 m 1268 ls []))
    {H : Heap} {locs : List Loc} {ls : Array Slot} (hv : zIv D cy s q qm o H locs) (hl : lv_has ls 7 [(4, .int (nI i)), (0, .ref b), (1, .ref (q 0)), (2, .ref (qm 0)), (3, .ref o)]) : W p l e room_1 s m #[Value.ref b] below meth c H locs cells slots Q (F0 m 969 ls []) := by
  have hx := cx.1
  have hb := cx.2.1
  have hbA : ¬ zAL s b := Nat.not_le.mpr hbl
  have hRc : zRc cells slots room_1 := ⟨by show cells + 0 ≤ 601024; omega, by show slots + 0 ≤ 7293034; omega⟩
  have in1 : vp_in (nI i + (1 : Int32)) L := zl_in (j := 1) hi hL (by decide)
  obtain ⟨S, T, tx, u, f, r, hu, hse, hw, hS⟩ := hv
  obtain ⟨hR0, hR1⟩ := id r
  have hh := hR0.2.1.1
  have hwf := hR0.2.1.2.1
  have hln := hR0.2.1.2.2.1
  have hwl := hR0.2.1.2.2.2.1
  have hhas0 := c_has hh (s := 1) (n := kP (T.1 2)) (by decide) hwf.2.1.1 (xs (nI i + (1 : Int32)).toNatClampNeg)
  rcases aIs_cases (kP (T.1 2)) (xs (nI i + (1 : Int32)).toNatClampNeg) (by have := hwf.2.1.2; omega) with hz | ⟨hz, hjx⟩
  · rw [hz] at hhas0
    have hhas : fX3_has S 4 1 (xs (nI i + (1 : Int32)).toNatClampNeg) = some 0 := hhas0
    obtain ⟨T', h2, r2⟩ := ov_card0 r hz
    refine lv_aload_n (pc := 969) hx hb dL_law_969 rfl (lv_at hl 2 rfl) ?_
    refine lv_aload_n (pc := 970) hx hb dL_law_970 rfl (lv_at hl 1 rfl) ?_
    refine lv_iload (pc := 971) hx hb dL_law_971 (lv_at hl 0 rfl) ?_
    refine lv_iconst (pc := 973) hx hb dL_law_973 zc_1 ?_
    refine lv_iadd (pc := 974) hx hb dL_law_974 ?_
    refine va_sld (pc := 975) hx hb hX hbl hbA hS in1 dL_law_975 ?_
    refine zr_VI (pc := 976) (As := [.int (xs (nI i + (1 : Int32)).toNatClampNeg)]) (rest := []) cx cv_L_139 (mX11_card0 (kK := kK) (kV := kV) hhas) ⟨⟨rfl, rfl⟩, Nat.le_of_ble_eq_true rfl, Nat.le_of_ble_eq_true rfl⟩ hRc hw.1 nC_0 sC_0 rfl hl.1 rfl rfl (Nat.le_of_ble_eq_true rfl) dL_law_976 ?_
    refine lv_aload_n (pc := 979) hx hb dL_law_979 rfl (lv_at hl 3 rfl) ?_
    refine lv_aload_n (pc := 980) hx hb dL_law_980 rfl (lv_at hl 1 rfl) ?_
    refine lv_iload (pc := 981) hx hb dL_law_981 (lv_at hl 0 rfl) ?_
    refine lv_iconst (pc := 983) hx hb dL_law_983 zc_1 ?_
    refine lv_iadd (pc := 984) hx hb dL_law_984 ?_
    refine va_sld (pc := 985) hx hb hX hbl hbA hS in1 dL_law_985 ?_
    refine zl_M (pc := 986) (As := [.int (xs (nI i + (1 : Int32)).toNatClampNeg)]) (rest := [.int (-1)]) cx cv_L_142 hse (mX12_card hse.qM h2) ⟨⟨rfl, rfl⟩, Nat.le_of_ble_eq_true rfl, Nat.le_of_ble_eq_true rfl⟩ hRc hS hw hl.1 rfl rfl (Nat.le_of_ble_eq_true rfl) dL_law_986 (fun H locs hS hw => ?_)
    refine lv_icmp_eq (pc := 989) (tgt := 1268) hx hb dL_law_989 (by decide) (fun _ => ?_) (fun c0 => absurd rfl c0)
    exact KC _ _ ls _ _ ⟨S, T', tx, u, f, r2, hu, hse, hw, hS⟩ hl (by omega) (by omega)
  · rw [hz] at hhas0
    obtain ⟨j, hj, ej⟩ := hjx
    have hj6 : j < 6 := by have := hwf.2.1.2; omega
    rw [ej] at hhas0
    have hhas : fX3_has S 4 1 (nI j) = some 1 := hhas0
    obtain ⟨l1, T', l1a, h7, ok, hwd, h2, r2⟩ := ov_card r hj
    have hacts := c_actsShown hln hwl hwf hj
    have hbit := c_bitcB (aCome (T.1 2) j) (n := kA (T.1 2)) hwl.2.1.2
    have hN : zCt (aCome (T.1 2) j) (kA (T.1 2)) ≤ 12 := Nat.le_trans (zCt_le _ _) hwl.2.1.2
    have hseen := c_seenBy hh hwf hln hwl hj
    have hfern : aFern (T.1 2) j = decide (S.1 9 j = 1) := by
      have e9 := (hh.2.2.2.2 j hj).2.2
      have e9 : S.1 9 j = if aFern (T.1 2) j = true then 1 else 0 := e9
      rw [e9]
      cases aFern (T.1 2) j <;> rfl
    rw [hfern] at h2 r2
    generalize hNe : zCt (aCome (T.1 2) j) (kA (T.1 2)) = N at hbit hN h2 r2
    generalize hwe : aSees (T.1 2) j 0 = ws at hseen h2 r2
    have hsep : ∀ k, k < 262 → ¬ (q k = q 262 ∨ q k = u.1 ∨ H.size ≤ q k) := fun k hk => by
      rintro (e2 | e2 | e2)
      · have := hse.1.1 k 262 (by omega) (by omega) e2; omega
      · exact hse.2.1 k (by omega) e2
      · have := (hw.1 k _ (zW_at (show k < 262 by omega) rfl)).lt
        have : q k < H.size := this
        omega
    have hDb : va_D (fun a => a = q 262 ∨ a = u.1 ∨ H.size ≤ a) (zBx cy (q 262) (nI tx.length) u) := by
      rw [z_Dm]
      refine ⟨List.Pairwise.cons (fun x hx => ?_) (List.Pairwise.cons (fun x hx => by cases hx) List.Pairwise.nil), fun x hx => ?_⟩
      · rw [List.mem_singleton] at hx; subst hx; exact hse.2.1 262 (by omega)
      · rcases zBx_mem hx with e2 | e2
        · exact Or.inl e2
        · exact Or.inr (Or.inl e2)
    have hsub : ∀ a, (a = q 262 ∨ a = u.1 ∨ H.size ≤ a) → zAL s a := by
      rintro a (rfl | rfl | h)
      · exact hse.1.2 262 (by omega)
      · exact hse.2.2.1
      · exact Nat.le_trans hS.1 h
    refine lv_aload_n (pc := 969) hx hb dL_law_969 rfl (lv_at hl 2 rfl) ?_
    refine lv_aload_n (pc := 970) hx hb dL_law_970 rfl (lv_at hl 1 rfl) ?_
    refine lv_iload (pc := 971) hx hb dL_law_971 (lv_at hl 0 rfl) ?_
    refine lv_iconst (pc := 973) hx hb dL_law_973 zc_1 ?_
    refine lv_iadd (pc := 974) hx hb dL_law_974 ?_
    refine va_sld (pc := 975) hx hb hX hbl hbA hS in1 dL_law_975 ?_
    rw [ej]
    refine va_calli (A0 := zAL s) (va_runV (As := [.int (nI j)]) (rest := []) (zr_fix cx) (mX11_card (A := fun a => a = q 262 ∨ a = u.1 ∨ H.size ≤ a) (kK := kK) (kV := kV) hsep hj6 hwd ok h7 hu hDb hhas hacts hbit hN hseen) (zr_cwVg cx cv_L_139 rfl rfl ⟨Nat.le_of_ble_eq_true rfl, Nat.le_of_ble_eq_true rfl⟩) ⟨fun a U g mk h => ⟨h.1, zPr_bl a U g mk h.2.1, zPf_bl a U g mk h.2.2⟩, va_recv (ci := 12) cx.2.2.2.2.2.1 hw.1 rfl (zW_at nC_0 sC_0), fun U hU hW => ⟨rfl, zr_pre cx hw.1 U hU hW, zr_pf cx hE hS hsub (fun q9 h9 => Or.inr (Or.inr h9)) hw.2.1 U hU hW⟩⟩ rfl rfl hl.1 rfl (lv_room (Nat.le_of_ble_eq_true rfl)) dL_law_976 ⟨by show cells + 2 ≤ 601024; omega, by show slots + 68 ≤ 7293034; omega⟩) hS (fun a _ h => hsub a h) hsub (fun rr u2 t H1 locs ht _ hpost hB hz hk hS => ?_)
    obtain ⟨hP2, hD2⟩ := hB
    subst ht
    obtain ⟨e9, hu2⟩ := hpost
    subst e9
    have hse2 : zSe (zAL s) q qm u2.1 o := zSe_b hse hw hsub hD2
    have hw := hw.setB hse hP2 hk
    have hRc : zRc (cells + 2) (slots + 68) room_1 := ⟨by show cells + 2 + 0 ≤ 601024; omega, by show slots + 68 + 0 ≤ 7293034; omega⟩
    have hse := hse2
    generalize t.heap = H at hS hw ⊢
    refine lv_aload_n (pc := 979) hx hb dL_law_979 rfl (lv_at hl 3 rfl) ?_
    refine lv_aload_n (pc := 980) hx hb dL_law_980 rfl (lv_at hl 1 rfl) ?_
    refine lv_iload (pc := 981) hx hb dL_law_981 (lv_at hl 0 rfl) ?_
    refine lv_iconst (pc := 983) hx hb dL_law_983 zc_1 ?_
    refine lv_iadd (pc := 984) hx hb dL_law_984 ?_
    refine va_sld (pc := 985) hx hb hX hbl hbA hS in1 dL_law_985 ?_
    rw [ej]
    refine zl_M (pc := 986) (As := [.int (nI j)]) (rest := [.int (nI (cTx l1 (decide (S.1 9 j = 1)) N (decide (ws = 0))).length)]) cx cv_L_142 hse (mX12_card hse.qM h2) ⟨⟨rfl, rfl⟩, Nat.le_of_ble_eq_true rfl, Nat.le_of_ble_eq_true rfl⟩ hRc hS hw hl.1 rfl rfl (Nat.le_of_ble_eq_true rfl) dL_law_986 (fun H locs hS hw => ?_)
    refine lv_icmp_eq (pc := 989) (tgt := 1268) hx hb dL_law_989 (by decide) (fun _ => ?_) (fun c0 => absurd rfl c0)
    exact KC _ _ ls _ _ ⟨S, T', _, u2, f, r2, hu2, hse, hw, hS⟩ hl (by omega) (by omega)
theorem dL_law_994 : decode cL_law 994 = .ok (.aload_n 1, 1) := by decide +kernel
theorem dL_law_995 : decode cL_law 995 = .ok (.aload_n 0, 1) := by decide +kernel
theorem dL_law_996 : decode cL_law 996 = .ok (.iload 4, 2) := by decide +kernel
theorem dL_law_998 : decode cL_law 998 = .ok (.iconst 1, 1) := by decide +kernel
theorem dL_law_999 : decode cL_law 999 = .ok (.iadd, 1) := by decide +kernel
theorem dL_law_1000 : decode cL_law 1000 = .ok (.iaload, 1) := by decide +kernel
theorem dL_law_1001 : decode cL_law 1001 = .ok (.invokevirtual 143, 3) := by decide +kernel
theorem wd_1164 : (Jvm.Cond.selects "ParlourLeaves" ({ cls := "ParlourLeaves", name := "byteAt", desc := "(I)I" } : Jvm.MethodName) ({ cls := "ParlourLeaves", name := "byteAt", desc := "(I)I" } : Jvm.MethodName)) ∈ zTB := List.mem_filter.mpr ⟨List.mem_append_right _ (List.mem_append_right _ (List.mem_append_right _ (List.mem_append_right _ (List.mem_append_right _ (List.mem_append_left _ (List.mem_of_getElem? (i := 204) rfl)))))), rfl⟩
theorem wd_1162 : (Jvm.Cond.methodLink "ParlourLeavesLaw" (143 : Nat) ({ cls := "ParlourLeaves", name := "byteAt", desc := "(I)I" } : Jvm.MethodName)) ∈ zTB := List.mem_filter.mpr ⟨List.mem_append_right _ (List.mem_append_right _ (List.mem_append_right _ (List.mem_append_right _ (List.mem_append_right _ (List.mem_append_left _ (List.mem_of_getElem? (i := 202) rfl)))))), rfl⟩
theorem wd_1163 : (Jvm.Cond.instanceMethod ({ cls := "ParlourLeaves", name := "byteAt", desc := "(I)I" } : Jvm.MethodName)) ∈ zTB := List.mem_filter.mpr ⟨List.mem_append_right _ (List.mem_append_right _ (List.mem_append_right _ (List.mem_append_right _ (List.mem_append_right _ (List.mem_append_left _ (List.mem_of_getElem? (i := 203) rfl)))))), rfl⟩
theorem wd_1165 : (Jvm.Cond.code ({ cls := "ParlourLeaves", name := "byteAt", desc := "(I)I" } : Jvm.MethodName) prog_1_method_30_code (2 : Nat) (Option.some Jvm.ClassFile.FieldType.int)) ∈ zTB := List.mem_filter.mpr ⟨List.mem_append_right _ (List.mem_append_right _ (List.mem_append_right _ (List.mem_append_right _ (List.mem_append_right _ (List.mem_append_left _ (List.mem_of_getElem? (i := 205) rfl)))))), rfl⟩
theorem cv_L_143 : zCV RL RX11 143 yX11_byteAt cX11_byteAt 2 (some .int) 1 := ⟨rfl, ⟨by decide, by decide, by decide +kernel⟩, wd_1162, wd_1163, wd_1164, wd_1, wd_1165⟩
theorem dL_law_1004 : decode cL_law 1004 = .ok (.aload_n 2, 1) := by decide +kernel
theorem dL_law_1005 : decode cL_law 1005 = .ok (.aload_n 0, 1) := by decide +kernel
theorem dL_law_1006 : decode cL_law 1006 = .ok (.iload 4, 2) := by decide +kernel
theorem dL_law_1008 : decode cL_law 1008 = .ok (.iconst 1, 1) := by decide +kernel
theorem dL_law_1009 : decode cL_law 1009 = .ok (.iadd, 1) := by decide +kernel
theorem dL_law_1010 : decode cL_law 1010 = .ok (.iaload, 1) := by decide +kernel
theorem dL_law_1011 : decode cL_law 1011 = .ok (.invokevirtual 146, 3) := by decide +kernel
theorem wd_1975 : (Jvm.Cond.selects "ParlourLeavesModel" ({ cls := "ParlourLeavesModel", name := "byteAt", desc := "(I)I" } : Jvm.MethodName) ({ cls := "ParlourLeavesModel", name := "byteAt", desc := "(I)I" } : Jvm.MethodName)) ∈ zTB := List.mem_filter.mpr ⟨List.mem_append_right _ (List.mem_append_right _ (List.mem_append_right _ (List.mem_append_right _ (List.mem_append_right _ (List.mem_append_right _ (List.mem_append_right _ (List.mem_append_right _ (List.mem_append_right _ (List.mem_of_getElem? (i := 55) rfl))))))))), rfl⟩
theorem wd_1973 : (Jvm.Cond.methodLink "ParlourLeavesLaw" (146 : Nat) ({ cls := "ParlourLeavesModel", name := "byteAt", desc := "(I)I" } : Jvm.MethodName)) ∈ zTB := List.mem_filter.mpr ⟨List.mem_append_right _ (List.mem_append_right _ (List.mem_append_right _ (List.mem_append_right _ (List.mem_append_right _ (List.mem_append_right _ (List.mem_append_right _ (List.mem_append_right _ (List.mem_append_right _ (List.mem_of_getElem? (i := 53) rfl))))))))), rfl⟩
theorem wd_1974 : (Jvm.Cond.instanceMethod ({ cls := "ParlourLeavesModel", name := "byteAt", desc := "(I)I" } : Jvm.MethodName)) ∈ zTB := List.mem_filter.mpr ⟨List.mem_append_right _ (List.mem_append_right _ (List.mem_append_right _ (List.mem_append_right _ (List.mem_append_right _ (List.mem_append_right _ (List.mem_append_right _ (List.mem_append_right _ (List.mem_append_right _ (List.mem_of_getElem? (i := 54) rfl))))))))), rfl⟩
theorem wd_1976 : (Jvm.Cond.code ({ cls := "ParlourLeavesModel", name := "byteAt", desc := "(I)I" } : Jvm.MethodName) prog_14_method_98_code (2 : Nat) (Option.some Jvm.ClassFile.FieldType.int)) ∈ zTB := List.mem_filter.mpr ⟨List.mem_append_right _ (List.mem_append_right _ (List.mem_append_right _ (List.mem_append_right _ (List.mem_append_right _ (List.mem_append_right _ (List.mem_append_right _ (List.mem_append_right _ (List.mem_append_right _ (List.mem_of_getElem? (i := 56) rfl))))))))), rfl⟩
theorem cv_L_146 : zCV RL RX12 146 yX12_byteAt cX12_byteAt 2 (some .int) 1 := ⟨rfl, ⟨by decide, by decide, by decide +kernel⟩, wd_1973, wd_1974, wd_1975, wd_19, wd_1976⟩
theorem dL_law_1014 : decode cL_law 1014 = .ok (.if_icmp .eq 254, 3) := by decide +kernel
set_option maxHeartbeats 1000000 in
set_option maxRecDepth 100000 in
theorem law_28 {p : Program} {l : Launch} {e : Env} {s : State} {m : MethodId} {below : List Frame} {meth : Method} {c : Code} {D : va_G} {cy : Nat → ClassId} {kK kV q qm : Nat → Nat} {o b L i cells slots : Nat} {xs : Nat → Int32} {Q : State → Prop} (cx : zX RL cL_law 7 p s m #[Value.ref b] c D cy) (hE : zEn kK kV (zAL s) s) (hX : va_X b L xs s s.heap) (hbl : b < s.heap.size) (hL : L ≤ 3072) (hi : i + 6 ≤ L) (hcl : cells + 2 ≤ 601024) (hsl : slots + 68 ≤ 7293034) (hl0 : l.stackTraces = false)
    (KC : ∀ (H : Heap) (locs : List Loc) (ls : Array Slot) (c1 s1 : Nat), zIv D cy s q qm o H locs → lv_has ls 7 [(4, .int (nI i)), (0, .ref b), (1, .ref (q 0)), (2, .ref (qm 0)), (3, .ref o)] → c1 ≤ cells + 2 → s1 ≤ slots + 68 → W p l e room_1 s m #[Value.ref b] below meth c H locs c1 s1 Q (F0 m 1268 ls []))
    {H : Heap} {locs : List Loc} {ls : Array Slot} (hv : zIv D cy s q qm o H locs) (hl : lv_has ls 7 [(4, .int (nI i)), (0, .ref b), (1, .ref (q 0)), (2, .ref (qm 0)), (3, .ref o)]) : W p l e room_1 s m #[Value.ref b] below meth c H locs cells slots Q (F0 m 994 ls []) := by
  have hx := cx.1
  have hb := cx.2.1
  have hbA : ¬ zAL s b := Nat.not_le.mpr hbl
  have hRc : zRc cells slots room_1 := ⟨by show cells + 0 ≤ 601024; omega, by show slots + 0 ≤ 7293034; omega⟩
  have in1 : vp_in (nI i + (1 : Int32)) L := zl_in (j := 1) hi hL (by decide)
  obtain ⟨S, T, tx, u, f, r, hu, hse, hw, hS⟩ := hv
  obtain ⟨T', h2, r2⟩ := ov_byteAt r (xs (nI i + (1 : Int32)).toNatClampNeg)
  refine lv_aload_n (pc := 994) hx hb dL_law_994 rfl (lv_at hl 2 rfl) ?_
  refine lv_aload_n (pc := 995) hx hb dL_law_995 rfl (lv_at hl 1 rfl) ?_
  refine lv_iload (pc := 996) hx hb dL_law_996 (lv_at hl 0 rfl) ?_
  refine lv_iconst (pc := 998) hx hb dL_law_998 zc_1 ?_
  refine lv_iadd (pc := 999) hx hb dL_law_999 ?_
  refine va_sld (pc := 1000) hx hb hX hbl hbA hS in1 dL_law_1000 ?_
  refine zr_VIg (pc := 1001) (q := q) (k := 0) (As := [.int (xs (nI i + (1 : Int32)).toNatClampNeg)]) (rest := []) cx cv_L_143 (mX11_byteAt (kK := kK) (kV := kV) hu) ⟨⟨rfl, rfl⟩, Nat.le_of_ble_eq_true rfl, Nat.le_of_ble_eq_true rfl⟩ hRc ⟨fun a U g mk h => ⟨h.1, zPr_bl a U g mk h.2.1, zPb_bl a U g mk h.2.2⟩, va_recv (ci := 12) cx.2.2.2.2.2.1 hw.1 rfl (zW_at nC_0 sC_0), fun U hU hW => ⟨rfl, zr_pre cx hw.1 U hU hW, zr_pb cx hE hS (fun _ h => h.elim) hw.2.1 U hU hW⟩⟩ hl.1 rfl rfl (Nat.le_of_ble_eq_true rfl) dL_law_1001 ?_
  refine lv_aload_n (pc := 1004) hx hb dL_law_1004 rfl (lv_at hl 3 rfl) ?_
  refine lv_aload_n (pc := 1005) hx hb dL_law_1005 rfl (lv_at hl 1 rfl) ?_
  refine lv_iload (pc := 1006) hx hb dL_law_1006 (lv_at hl 0 rfl) ?_
  refine lv_iconst (pc := 1008) hx hb dL_law_1008 zc_1 ?_
  refine lv_iadd (pc := 1009) hx hb dL_law_1009 ?_
  refine va_sld (pc := 1010) hx hb hX hbl hbA hS in1 dL_law_1010 ?_
  refine zl_M (pc := 1011) (As := [.int (xs (nI i + (1 : Int32)).toNatClampNeg)]) (rest := [.int (bAt tx (xs (nI i + (1 : Int32)).toNatClampNeg))]) cx cv_L_146 hse (mX12_byteAt hse.qM h2) ⟨⟨rfl, rfl⟩, Nat.le_of_ble_eq_true rfl, Nat.le_of_ble_eq_true rfl⟩ hRc hS hw hl.1 rfl rfl (Nat.le_of_ble_eq_true rfl) dL_law_1011 (fun H locs hS hw => ?_)
  refine lv_icmp_eq (pc := 1014) (tgt := 1268) hx hb dL_law_1014 (by decide) (fun _ => ?_) (fun c0 => absurd rfl c0)
  exact KC _ _ ls _ _ ⟨S, T', tx, u, f, r2, hu, hse, hw, hS⟩ hl (by omega) (by omega)
theorem dL_law_1019 : decode cL_law 1019 = .ok (.aload_n 1, 1) := by decide +kernel
theorem dL_law_1020 : decode cL_law 1020 = .ok (.aload_n 0, 1) := by decide +kernel
theorem dL_law_1021 : decode cL_law 1021 = .ok (.iload 4, 2) := by decide +kernel
theorem dL_law_1023 : decode cL_law 1023 = .ok (.iconst 1, 1) := by decide +kernel
theorem dL_law_1024 : decode cL_law 1024 = .ok (.iadd, 1) := by decide +kernel
theorem dL_law_1025 : decode cL_law 1025 = .ok (.iaload, 1) := by decide +kernel
theorem dL_law_1026 : decode cL_law 1026 = .ok (.aload_n 0, 1) := by decide +kernel
theorem dL_law_1027 : decode cL_law 1027 = .ok (.iload 4, 2) := by decide +kernel
theorem dL_law_1029 : decode cL_law 1029 = .ok (.iconst 2, 1) := by decide +kernel
theorem dL_law_1030 : decode cL_law 1030 = .ok (.iadd, 1) := by decide +kernel
theorem dL_law_1031 : decode cL_law 1031 = .ok (.iaload, 1) := by decide +kernel
theorem dL_law_1032 : decode cL_law 1032 = .ok (.invokevirtual 147, 3) := by decide +kernel
theorem wd_1178 : (Jvm.Cond.selects "ParlourLeaves" ({ cls := "ParlourLeaves", name := "drawn", desc := "(II)I" } : Jvm.MethodName) ({ cls := "ParlourLeaves", name := "drawn", desc := "(II)I" } : Jvm.MethodName)) ∈ zTB := List.mem_filter.mpr ⟨List.mem_append_right _ (List.mem_append_right _ (List.mem_append_right _ (List.mem_append_right _ (List.mem_append_right _ (List.mem_append_left _ (List.mem_of_getElem? (i := 218) rfl)))))), rfl⟩
theorem wd_1176 : (Jvm.Cond.methodLink "ParlourLeavesLaw" (147 : Nat) ({ cls := "ParlourLeaves", name := "drawn", desc := "(II)I" } : Jvm.MethodName)) ∈ zTB := List.mem_filter.mpr ⟨List.mem_append_right _ (List.mem_append_right _ (List.mem_append_right _ (List.mem_append_right _ (List.mem_append_right _ (List.mem_append_left _ (List.mem_of_getElem? (i := 216) rfl)))))), rfl⟩
theorem wd_1177 : (Jvm.Cond.instanceMethod ({ cls := "ParlourLeaves", name := "drawn", desc := "(II)I" } : Jvm.MethodName)) ∈ zTB := List.mem_filter.mpr ⟨List.mem_append_right _ (List.mem_append_right _ (List.mem_append_right _ (List.mem_append_right _ (List.mem_append_right _ (List.mem_append_left _ (List.mem_of_getElem? (i := 217) rfl)))))), rfl⟩
theorem wd_1179 : (Jvm.Cond.code ({ cls := "ParlourLeaves", name := "drawn", desc := "(II)I" } : Jvm.MethodName) prog_1_method_31_code (3 : Nat) (Option.some Jvm.ClassFile.FieldType.int)) ∈ zTB := List.mem_filter.mpr ⟨List.mem_append_right _ (List.mem_append_right _ (List.mem_append_right _ (List.mem_append_right _ (List.mem_append_right _ (List.mem_append_left _ (List.mem_of_getElem? (i := 219) rfl)))))), rfl⟩
theorem cv_L_147 : zCV RL RX11 147 yX11_drawn cX11_drawn 3 (some .int) 2 := ⟨rfl, ⟨by decide, by decide, by decide +kernel⟩, wd_1176, wd_1177, wd_1178, wd_1, wd_1179⟩
theorem dL_law_1035 : decode cL_law 1035 = .ok (.aload_n 2, 1) := by decide +kernel
theorem dL_law_1036 : decode cL_law 1036 = .ok (.aload_n 0, 1) := by decide +kernel
theorem dL_law_1037 : decode cL_law 1037 = .ok (.iload 4, 2) := by decide +kernel
theorem dL_law_1039 : decode cL_law 1039 = .ok (.iconst 1, 1) := by decide +kernel
theorem dL_law_1040 : decode cL_law 1040 = .ok (.iadd, 1) := by decide +kernel
theorem dL_law_1041 : decode cL_law 1041 = .ok (.iaload, 1) := by decide +kernel
theorem dL_law_1042 : decode cL_law 1042 = .ok (.aload_n 0, 1) := by decide +kernel
theorem dL_law_1043 : decode cL_law 1043 = .ok (.iload 4, 2) := by decide +kernel
theorem dL_law_1045 : decode cL_law 1045 = .ok (.iconst 2, 1) := by decide +kernel
theorem dL_law_1046 : decode cL_law 1046 = .ok (.iadd, 1) := by decide +kernel
theorem dL_law_1047 : decode cL_law 1047 = .ok (.iaload, 1) := by decide +kernel
theorem dL_law_1048 : decode cL_law 1048 = .ok (.invokevirtual 150, 3) := by decide +kernel
theorem wd_1979 : (Jvm.Cond.selects "ParlourLeavesModel" ({ cls := "ParlourLeavesModel", name := "drawn", desc := "(II)I" } : Jvm.MethodName) ({ cls := "ParlourLeavesModel", name := "drawn", desc := "(II)I" } : Jvm.MethodName)) ∈ zTB := List.mem_filter.mpr ⟨List.mem_append_right _ (List.mem_append_right _ (List.mem_append_right _ (List.mem_append_right _ (List.mem_append_right _ (List.mem_append_right _ (List.mem_append_right _ (List.mem_append_right _ (List.mem_append_right _ (List.mem_of_getElem? (i := 59) rfl))))))))), rfl⟩
theorem wd_1977 : (Jvm.Cond.methodLink "ParlourLeavesLaw" (150 : Nat) ({ cls := "ParlourLeavesModel", name := "drawn", desc := "(II)I" } : Jvm.MethodName)) ∈ zTB := List.mem_filter.mpr ⟨List.mem_append_right _ (List.mem_append_right _ (List.mem_append_right _ (List.mem_append_right _ (List.mem_append_right _ (List.mem_append_right _ (List.mem_append_right _ (List.mem_append_right _ (List.mem_append_right _ (List.mem_of_getElem? (i := 57) rfl))))))))), rfl⟩
theorem wd_1978 : (Jvm.Cond.instanceMethod ({ cls := "ParlourLeavesModel", name := "drawn", desc := "(II)I" } : Jvm.MethodName)) ∈ zTB := List.mem_filter.mpr ⟨List.mem_append_right _ (List.mem_append_right _ (List.mem_append_right _ (List.mem_append_right _ (List.mem_append_right _ (List.mem_append_right _ (List.mem_append_right _ (List.mem_append_right _ (List.mem_append_right _ (List.mem_of_getElem? (i := 58) rfl))))))))), rfl⟩
theorem wd_1980 : (Jvm.Cond.code ({ cls := "ParlourLeavesModel", name := "drawn", desc := "(II)I" } : Jvm.MethodName) prog_14_method_102_code (3 : Nat) (Option.some Jvm.ClassFile.FieldType.int)) ∈ zTB := List.mem_filter.mpr ⟨List.mem_append_right _ (List.mem_append_right _ (List.mem_append_right _ (List.mem_append_right _ (List.mem_append_right _ (List.mem_append_right _ (List.mem_append_right _ (List.mem_append_right _ (List.mem_append_right _ (List.mem_of_getElem? (i := 60) rfl))))))))), rfl⟩
theorem cv_L_150 : zCV RL RX12 150 yX12_drawn cX12_drawn 3 (some .int) 2 := ⟨rfl, ⟨by decide, by decide, by decide +kernel⟩, wd_1977, wd_1978, wd_1979, wd_19, wd_1980⟩
theorem dL_law_1051 : decode cL_law 1051 = .ok (.if_icmp .eq 217, 3) := by decide +kernel
set_option maxHeartbeats 1000000 in
set_option maxRecDepth 100000 in
theorem law_29 {p : Program} {l : Launch} {e : Env} {s : State} {m : MethodId} {below : List Frame} {meth : Method} {c : Code} {D : va_G} {cy : Nat → ClassId} {kK kV q qm : Nat → Nat} {o b L i cells slots : Nat} {xs : Nat → Int32} {Q : State → Prop} (cx : zX RL cL_law 7 p s m #[Value.ref b] c D cy) (hE : zEn kK kV (zAL s) s) (hX : va_X b L xs s s.heap) (hbl : b < s.heap.size) (hL : L ≤ 3072) (hi : i + 6 ≤ L) (hcl : cells + 2 ≤ 601024) (hsl : slots + 68 ≤ 7293034) (hl0 : l.stackTraces = false)
    (KC : ∀ (H : Heap) (locs : List Loc) (ls : Array Slot) (c1 s1 : Nat), zIv D cy s q qm o H locs → lv_has ls 7 [(4, .int (nI i)), (0, .ref b), (1, .ref (q 0)), (2, .ref (qm 0)), (3, .ref o)] → c1 ≤ cells + 2 → s1 ≤ slots + 68 → W p l e room_1 s m #[Value.ref b] below meth c H locs c1 s1 Q (F0 m 1268 ls []))
    {H : Heap} {locs : List Loc} {ls : Array Slot} (hv : zIv D cy s q qm o H locs) (hl : lv_has ls 7 [(4, .int (nI i)), (0, .ref b), (1, .ref (q 0)), (2, .ref (qm 0)), (3, .ref o)]) : W p l e room_1 s m #[Value.ref b] below meth c H locs cells slots Q (F0 m 1019 ls []) := by
  have hx := cx.1
  have hb := cx.2.1
  have hbA : ¬ zAL s b := Nat.not_le.mpr hbl
  have hRc : zRc cells slots room_1 := ⟨by show cells + 0 ≤ 601024; omega, by show slots + 0 ≤ 7293034; omega⟩
  have in1 : vp_in (nI i + (1 : Int32)) L := zl_in (j := 1) hi hL (by decide)
  have in2 : vp_in (nI i + (2 : Int32)) L := zl_in (j := 2) hi hL (by decide)
  obtain ⟨S, T, tx, u, f, r, hu, hse, hw, hS⟩ := hv
  obtain ⟨z, S', T', h1, h2, r2⟩ := ov_drawn r (xs (nI i + (1 : Int32)).toNatClampNeg) (xs (nI i + (2 : Int32)).toNatClampNeg)
  refine lv_aload_n (pc := 1019) hx hb dL_law_1019 rfl (lv_at hl 2 rfl) ?_
  refine lv_aload_n (pc := 1020) hx hb dL_law_1020 rfl (lv_at hl 1 rfl) ?_
  refine lv_iload (pc := 1021) hx hb dL_law_1021 (lv_at hl 0 rfl) ?_
  refine lv_iconst (pc := 1023) hx hb dL_law_1023 zc_1 ?_
  refine lv_iadd (pc := 1024) hx hb dL_law_1024 ?_
  refine va_sld (pc := 1025) hx hb hX hbl hbA hS in1 dL_law_1025 ?_
  refine lv_aload_n (pc := 1026) hx hb dL_law_1026 rfl (lv_at hl 1 rfl) ?_
  refine lv_iload (pc := 1027) hx hb dL_law_1027 (lv_at hl 0 rfl) ?_
  refine lv_iconst (pc := 1029) hx hb dL_law_1029 zc_2 ?_
  refine lv_iadd (pc := 1030) hx hb dL_law_1030 ?_
  refine va_sld (pc := 1031) hx hb hX hbl hbA hS in2 dL_law_1031 ?_
  refine zl_C (pc := 1032) (As := [.int (xs (nI i + (1 : Int32)).toNatClampNeg), .int (xs (nI i + (2 : Int32)).toNatClampNeg)]) (rest := []) cx cv_L_147 hse (mX11_drawn hse.qC h1) ⟨⟨rfl, rfl⟩, Nat.le_of_ble_eq_true rfl, Nat.le_of_ble_eq_true rfl⟩ hRc hS hw hl.1 rfl rfl (Nat.le_of_ble_eq_true rfl) dL_law_1032 (fun H locs hS hw => ?_)
  refine lv_aload_n (pc := 1035) hx hb dL_law_1035 rfl (lv_at hl 3 rfl) ?_
  refine lv_aload_n (pc := 1036) hx hb dL_law_1036 rfl (lv_at hl 1 rfl) ?_
  refine lv_iload (pc := 1037) hx hb dL_law_1037 (lv_at hl 0 rfl) ?_
  refine lv_iconst (pc := 1039) hx hb dL_law_1039 zc_1 ?_
  refine lv_iadd (pc := 1040) hx hb dL_law_1040 ?_
  refine va_sld (pc := 1041) hx hb hX hbl hbA hS in1 dL_law_1041 ?_
  refine lv_aload_n (pc := 1042) hx hb dL_law_1042 rfl (lv_at hl 1 rfl) ?_
  refine lv_iload (pc := 1043) hx hb dL_law_1043 (lv_at hl 0 rfl) ?_
  refine lv_iconst (pc := 1045) hx hb dL_law_1045 zc_2 ?_
  refine lv_iadd (pc := 1046) hx hb dL_law_1046 ?_
  refine va_sld (pc := 1047) hx hb hX hbl hbA hS in2 dL_law_1047 ?_
  refine zl_M (pc := 1048) (As := [.int (xs (nI i + (1 : Int32)).toNatClampNeg), .int (xs (nI i + (2 : Int32)).toNatClampNeg)]) (rest := [.int z]) cx cv_L_150 hse (mX12_drawn hse.qM h2) ⟨⟨rfl, rfl⟩, Nat.le_of_ble_eq_true rfl, Nat.le_of_ble_eq_true rfl⟩ hRc hS hw hl.1 rfl rfl (Nat.le_of_ble_eq_true rfl) dL_law_1048 (fun H locs hS hw => ?_)
  refine lv_icmp_eq (pc := 1051) (tgt := 1268) hx hb dL_law_1051 (by decide) (fun _ => ?_) (fun c0 => absurd rfl c0)
  exact KC _ _ ls _ _ ⟨S', T', tx, u, f, r2, hu, hse, hw, hS⟩ hl (by omega) (by omega)
theorem dL_law_1056 : decode cL_law 1056 = .ok (.aload_n 1, 1) := by decide +kernel
theorem dL_law_1057 : decode cL_law 1057 = .ok (.aload_n 0, 1) := by decide +kernel
theorem dL_law_1058 : decode cL_law 1058 = .ok (.iload 4, 2) := by decide +kernel
theorem dL_law_1060 : decode cL_law 1060 = .ok (.iconst 1, 1) := by decide +kernel
theorem dL_law_1061 : decode cL_law 1061 = .ok (.iadd, 1) := by decide +kernel
theorem dL_law_1062 : decode cL_law 1062 = .ok (.iaload, 1) := by decide +kernel
theorem dL_law_1063 : decode cL_law 1063 = .ok (.aload_n 0, 1) := by decide +kernel
theorem dL_law_1064 : decode cL_law 1064 = .ok (.iload 4, 2) := by decide +kernel
theorem dL_law_1066 : decode cL_law 1066 = .ok (.iconst 2, 1) := by decide +kernel
theorem dL_law_1067 : decode cL_law 1067 = .ok (.iadd, 1) := by decide +kernel
theorem dL_law_1068 : decode cL_law 1068 = .ok (.iaload, 1) := by decide +kernel
theorem dL_law_1069 : decode cL_law 1069 = .ok (.aload_n 0, 1) := by decide +kernel
theorem dL_law_1070 : decode cL_law 1070 = .ok (.iload 4, 2) := by decide +kernel
theorem dL_law_1072 : decode cL_law 1072 = .ok (.iconst 3, 1) := by decide +kernel
theorem dL_law_1073 : decode cL_law 1073 = .ok (.iadd, 1) := by decide +kernel
theorem dL_law_1074 : decode cL_law 1074 = .ok (.iaload, 1) := by decide +kernel
theorem dL_law_1075 : decode cL_law 1075 = .ok (.invokevirtual 151, 3) := by decide +kernel
theorem wd_1206 : (Jvm.Cond.selects "ParlourLeaves" ({ cls := "ParlourLeaves", name := "odds", desc := "(III)I" } : Jvm.MethodName) ({ cls := "ParlourLeaves", name := "odds", desc := "(III)I" } : Jvm.MethodName)) ∈ zTB := List.mem_filter.mpr ⟨List.mem_append_right _ (List.mem_append_right _ (List.mem_append_right _ (List.mem_append_right _ (List.mem_append_right _ (List.mem_append_right _ (List.mem_append_left _ (List.mem_of_getElem? (i := 6) rfl))))))), rfl⟩
theorem wd_1204 : (Jvm.Cond.methodLink "ParlourLeavesLaw" (151 : Nat) ({ cls := "ParlourLeaves", name := "odds", desc := "(III)I" } : Jvm.MethodName)) ∈ zTB := List.mem_filter.mpr ⟨List.mem_append_right _ (List.mem_append_right _ (List.mem_append_right _ (List.mem_append_right _ (List.mem_append_right _ (List.mem_append_right _ (List.mem_append_left _ (List.mem_of_getElem? (i := 4) rfl))))))), rfl⟩
theorem wd_1205 : (Jvm.Cond.instanceMethod ({ cls := "ParlourLeaves", name := "odds", desc := "(III)I" } : Jvm.MethodName)) ∈ zTB := List.mem_filter.mpr ⟨List.mem_append_right _ (List.mem_append_right _ (List.mem_append_right _ (List.mem_append_right _ (List.mem_append_right _ (List.mem_append_right _ (List.mem_append_left _ (List.mem_of_getElem? (i := 5) rfl))))))), rfl⟩
theorem wd_1207 : (Jvm.Cond.code ({ cls := "ParlourLeaves", name := "odds", desc := "(III)I" } : Jvm.MethodName) prog_1_method_32_code (6 : Nat) (Option.some Jvm.ClassFile.FieldType.int)) ∈ zTB := List.mem_filter.mpr ⟨List.mem_append_right _ (List.mem_append_right _ (List.mem_append_right _ (List.mem_append_right _ (List.mem_append_right _ (List.mem_append_right _ (List.mem_append_left _ (List.mem_of_getElem? (i := 7) rfl))))))), rfl⟩
theorem cv_L_151 : zCV RL RX11 151 yX11_odds cX11_odds 6 (some .int) 3 := ⟨rfl, ⟨by decide, by decide, by decide +kernel⟩, wd_1204, wd_1205, wd_1206, wd_1, wd_1207⟩
theorem dL_law_1078 : decode cL_law 1078 = .ok (.aload_n 2, 1) := by decide +kernel
theorem dL_law_1079 : decode cL_law 1079 = .ok (.aload_n 0, 1) := by decide +kernel
theorem dL_law_1080 : decode cL_law 1080 = .ok (.iload 4, 2) := by decide +kernel
theorem dL_law_1082 : decode cL_law 1082 = .ok (.iconst 1, 1) := by decide +kernel
theorem dL_law_1083 : decode cL_law 1083 = .ok (.iadd, 1) := by decide +kernel
theorem dL_law_1084 : decode cL_law 1084 = .ok (.iaload, 1) := by decide +kernel
theorem dL_law_1085 : decode cL_law 1085 = .ok (.aload_n 0, 1) := by decide +kernel
theorem dL_law_1086 : decode cL_law 1086 = .ok (.iload 4, 2) := by decide +kernel
theorem dL_law_1088 : decode cL_law 1088 = .ok (.iconst 2, 1) := by decide +kernel
theorem dL_law_1089 : decode cL_law 1089 = .ok (.iadd, 1) := by decide +kernel
theorem dL_law_1090 : decode cL_law 1090 = .ok (.iaload, 1) := by decide +kernel
theorem dL_law_1091 : decode cL_law 1091 = .ok (.aload_n 0, 1) := by decide +kernel
theorem dL_law_1092 : decode cL_law 1092 = .ok (.iload 4, 2) := by decide +kernel
theorem dL_law_1094 : decode cL_law 1094 = .ok (.iconst 3, 1) := by decide +kernel
theorem dL_law_1095 : decode cL_law 1095 = .ok (.iadd, 1) := by decide +kernel
theorem dL_law_1096 : decode cL_law 1096 = .ok (.iaload, 1) := by decide +kernel
theorem dL_law_1097 : decode cL_law 1097 = .ok (.invokevirtual 154, 3) := by decide +kernel
theorem wd_1996 : (Jvm.Cond.selects "ParlourLeavesModel" ({ cls := "ParlourLeavesModel", name := "odds", desc := "(III)I" } : Jvm.MethodName) ({ cls := "ParlourLeavesModel", name := "odds", desc := "(III)I" } : Jvm.MethodName)) ∈ zTB := List.mem_filter.mpr ⟨List.mem_append_right _ (List.mem_append_right _ (List.mem_append_right _ (List.mem_append_right _ (List.mem_append_right _ (List.mem_append_right _ (List.mem_append_right _ (List.mem_append_right _ (List.mem_append_right _ (List.mem_of_getElem? (i := 76) rfl))))))))), rfl⟩
theorem wd_1994 : (Jvm.Cond.methodLink "ParlourLeavesLaw" (154 : Nat) ({ cls := "ParlourLeavesModel", name := "odds", desc := "(III)I" } : Jvm.MethodName)) ∈ zTB := List.mem_filter.mpr ⟨List.mem_append_right _ (List.mem_append_right _ (List.mem_append_right _ (List.mem_append_right _ (List.mem_append_right _ (List.mem_append_right _ (List.mem_append_right _ (List.mem_append_right _ (List.mem_append_right _ (List.mem_of_getElem? (i := 74) rfl))))))))), rfl⟩
theorem wd_1995 : (Jvm.Cond.instanceMethod ({ cls := "ParlourLeavesModel", name := "odds", desc := "(III)I" } : Jvm.MethodName)) ∈ zTB := List.mem_filter.mpr ⟨List.mem_append_right _ (List.mem_append_right _ (List.mem_append_right _ (List.mem_append_right _ (List.mem_append_right _ (List.mem_append_right _ (List.mem_append_right _ (List.mem_append_right _ (List.mem_append_right _ (List.mem_of_getElem? (i := 75) rfl))))))))), rfl⟩
theorem wd_1997 : (Jvm.Cond.code ({ cls := "ParlourLeavesModel", name := "odds", desc := "(III)I" } : Jvm.MethodName) prog_14_method_106_code (6 : Nat) (Option.some Jvm.ClassFile.FieldType.int)) ∈ zTB := List.mem_filter.mpr ⟨List.mem_append_right _ (List.mem_append_right _ (List.mem_append_right _ (List.mem_append_right _ (List.mem_append_right _ (List.mem_append_right _ (List.mem_append_right _ (List.mem_append_right _ (List.mem_append_right _ (List.mem_of_getElem? (i := 77) rfl))))))))), rfl⟩
theorem cv_L_154 : zCV RL RX12 154 yX12_odds cX12_odds 6 (some .int) 3 := ⟨rfl, ⟨by decide, by decide, by decide +kernel⟩, wd_1994, wd_1995, wd_1996, wd_19, wd_1997⟩
theorem dL_law_1100 : decode cL_law 1100 = .ok (.if_icmp .eq 168, 3) := by decide +kernel
set_option maxHeartbeats 1000000 in
set_option maxRecDepth 100000 in
theorem law_30 {p : Program} {l : Launch} {e : Env} {s : State} {m : MethodId} {below : List Frame} {meth : Method} {c : Code} {D : va_G} {cy : Nat → ClassId} {kK kV q qm : Nat → Nat} {o b L i cells slots : Nat} {xs : Nat → Int32} {Q : State → Prop} (cx : zX RL cL_law 7 p s m #[Value.ref b] c D cy) (hE : zEn kK kV (zAL s) s) (hX : va_X b L xs s s.heap) (hbl : b < s.heap.size) (hL : L ≤ 3072) (hi : i + 6 ≤ L) (hcl : cells + 2 ≤ 601024) (hsl : slots + 68 ≤ 7293034) (hl0 : l.stackTraces = false)
    (KC : ∀ (H : Heap) (locs : List Loc) (ls : Array Slot) (c1 s1 : Nat), zIv D cy s q qm o H locs → lv_has ls 7 [(4, .int (nI i)), (0, .ref b), (1, .ref (q 0)), (2, .ref (qm 0)), (3, .ref o)] → c1 ≤ cells + 2 → s1 ≤ slots + 68 → W p l e room_1 s m #[Value.ref b] below meth c H locs c1 s1 Q (F0 m 1268 ls []))
    {H : Heap} {locs : List Loc} {ls : Array Slot} (hv : zIv D cy s q qm o H locs) (hl : lv_has ls 7 [(4, .int (nI i)), (0, .ref b), (1, .ref (q 0)), (2, .ref (qm 0)), (3, .ref o)]) : W p l e room_1 s m #[Value.ref b] below meth c H locs cells slots Q (F0 m 1056 ls []) := by
  have hx := cx.1
  have hb := cx.2.1
  have hbA : ¬ zAL s b := Nat.not_le.mpr hbl
  have hRc : zRc cells slots room_1 := ⟨by show cells + 0 ≤ 601024; omega, by show slots + 0 ≤ 7293034; omega⟩
  have in1 : vp_in (nI i + (1 : Int32)) L := zl_in (j := 1) hi hL (by decide)
  have in2 : vp_in (nI i + (2 : Int32)) L := zl_in (j := 2) hi hL (by decide)
  have in3 : vp_in (nI i + (3 : Int32)) L := zl_in (j := 3) hi hL (by decide)
  obtain ⟨S, T, tx, u, f, r, hu, hse, hw, hS⟩ := hv
  obtain ⟨z, S', T', h1, h2, r2⟩ := ov_odds r (xs (nI i + (1 : Int32)).toNatClampNeg) (xs (nI i + (2 : Int32)).toNatClampNeg) (xs (nI i + (3 : Int32)).toNatClampNeg)
  refine lv_aload_n (pc := 1056) hx hb dL_law_1056 rfl (lv_at hl 2 rfl) ?_
  refine lv_aload_n (pc := 1057) hx hb dL_law_1057 rfl (lv_at hl 1 rfl) ?_
  refine lv_iload (pc := 1058) hx hb dL_law_1058 (lv_at hl 0 rfl) ?_
  refine lv_iconst (pc := 1060) hx hb dL_law_1060 zc_1 ?_
  refine lv_iadd (pc := 1061) hx hb dL_law_1061 ?_
  refine va_sld (pc := 1062) hx hb hX hbl hbA hS in1 dL_law_1062 ?_
  refine lv_aload_n (pc := 1063) hx hb dL_law_1063 rfl (lv_at hl 1 rfl) ?_
  refine lv_iload (pc := 1064) hx hb dL_law_1064 (lv_at hl 0 rfl) ?_
  refine lv_iconst (pc := 1066) hx hb dL_law_1066 zc_2 ?_
  refine lv_iadd (pc := 1067) hx hb dL_law_1067 ?_
  refine va_sld (pc := 1068) hx hb hX hbl hbA hS in2 dL_law_1068 ?_
  refine lv_aload_n (pc := 1069) hx hb dL_law_1069 rfl (lv_at hl 1 rfl) ?_
  refine lv_iload (pc := 1070) hx hb dL_law_1070 (lv_at hl 0 rfl) ?_
  refine lv_iconst (pc := 1072) hx hb dL_law_1072 zc_3 ?_
  refine lv_iadd (pc := 1073) hx hb dL_law_1073 ?_
  refine va_sld (pc := 1074) hx hb hX hbl hbA hS in3 dL_law_1074 ?_
  refine zl_C (pc := 1075) (As := [.int (xs (nI i + (1 : Int32)).toNatClampNeg), .int (xs (nI i + (2 : Int32)).toNatClampNeg), .int (xs (nI i + (3 : Int32)).toNatClampNeg)]) (rest := []) cx cv_L_151 hse (mX11_odds hse.qC h1) ⟨⟨rfl, rfl⟩, Nat.le_of_ble_eq_true rfl, Nat.le_of_ble_eq_true rfl⟩ hRc hS hw hl.1 rfl rfl (Nat.le_of_ble_eq_true rfl) dL_law_1075 (fun H locs hS hw => ?_)
  refine lv_aload_n (pc := 1078) hx hb dL_law_1078 rfl (lv_at hl 3 rfl) ?_
  refine lv_aload_n (pc := 1079) hx hb dL_law_1079 rfl (lv_at hl 1 rfl) ?_
  refine lv_iload (pc := 1080) hx hb dL_law_1080 (lv_at hl 0 rfl) ?_
  refine lv_iconst (pc := 1082) hx hb dL_law_1082 zc_1 ?_
  refine lv_iadd (pc := 1083) hx hb dL_law_1083 ?_
  refine va_sld (pc := 1084) hx hb hX hbl hbA hS in1 dL_law_1084 ?_
  refine lv_aload_n (pc := 1085) hx hb dL_law_1085 rfl (lv_at hl 1 rfl) ?_
  refine lv_iload (pc := 1086) hx hb dL_law_1086 (lv_at hl 0 rfl) ?_
  refine lv_iconst (pc := 1088) hx hb dL_law_1088 zc_2 ?_
  refine lv_iadd (pc := 1089) hx hb dL_law_1089 ?_
  refine va_sld (pc := 1090) hx hb hX hbl hbA hS in2 dL_law_1090 ?_
  refine lv_aload_n (pc := 1091) hx hb dL_law_1091 rfl (lv_at hl 1 rfl) ?_
  refine lv_iload (pc := 1092) hx hb dL_law_1092 (lv_at hl 0 rfl) ?_
  refine lv_iconst (pc := 1094) hx hb dL_law_1094 zc_3 ?_
  refine lv_iadd (pc := 1095) hx hb dL_law_1095 ?_
  refine va_sld (pc := 1096) hx hb hX hbl hbA hS in3 dL_law_1096 ?_
  refine zl_M (pc := 1097) (As := [.int (xs (nI i + (1 : Int32)).toNatClampNeg), .int (xs (nI i + (2 : Int32)).toNatClampNeg), .int (xs (nI i + (3 : Int32)).toNatClampNeg)]) (rest := [.int z]) cx cv_L_154 hse (mX12_odds hse.qM h2) ⟨⟨rfl, rfl⟩, Nat.le_of_ble_eq_true rfl, Nat.le_of_ble_eq_true rfl⟩ hRc hS hw hl.1 rfl rfl (Nat.le_of_ble_eq_true rfl) dL_law_1097 (fun H locs hS hw => ?_)
  refine lv_icmp_eq (pc := 1100) (tgt := 1268) hx hb dL_law_1100 (by decide) (fun _ => ?_) (fun c0 => absurd rfl c0)
  exact KC _ _ ls _ _ ⟨S', T', tx, u, f, r2, hu, hse, hw, hS⟩ hl (by omega) (by omega)
theorem dL_law_1105 : decode cL_law 1105 = .ok (.aload_n 1, 1) := by decide +kernel
theorem dL_law_1106 : decode cL_law 1106 = .ok (.aload_n 0, 1) := by decide +kernel
theorem dL_law_1107 : decode cL_law 1107 = .ok (.iload 4, 2) := by decide +kernel
theorem dL_law_1109 : decode cL_law 1109 = .ok (.iconst 1, 1) := by decide +kernel
theorem dL_law_1110 : decode cL_law 1110 = .ok (.iadd, 1) := by decide +kernel
theorem dL_law_1111 : decode cL_law 1111 = .ok (.iaload, 1) := by decide +kernel
theorem dL_law_1112 : decode cL_law 1112 = .ok (.invokevirtual 155, 3) := by decide +kernel
theorem wd_1211 : (Jvm.Cond.selects "ParlourLeaves" ({ cls := "ParlourLeaves", name := "book", desc := "(I)I" } : Jvm.MethodName) ({ cls := "ParlourLeaves", name := "book", desc := "(I)I" } : Jvm.MethodName)) ∈ zTB := List.mem_filter.mpr ⟨List.mem_append_right _ (List.mem_append_right _ (List.mem_append_right _ (List.mem_append_right _ (List.mem_append_right _ (List.mem_append_right _ (List.mem_append_left _ (List.mem_of_getElem? (i := 11) rfl))))))), rfl⟩
theorem wd_1209 : (Jvm.Cond.methodLink "ParlourLeavesLaw" (155 : Nat) ({ cls := "ParlourLeaves", name := "book", desc := "(I)I" } : Jvm.MethodName)) ∈ zTB := List.mem_filter.mpr ⟨List.mem_append_right _ (List.mem_append_right _ (List.mem_append_right _ (List.mem_append_right _ (List.mem_append_right _ (List.mem_append_right _ (List.mem_append_left _ (List.mem_of_getElem? (i := 9) rfl))))))), rfl⟩
theorem wd_1210 : (Jvm.Cond.instanceMethod ({ cls := "ParlourLeaves", name := "book", desc := "(I)I" } : Jvm.MethodName)) ∈ zTB := List.mem_filter.mpr ⟨List.mem_append_right _ (List.mem_append_right _ (List.mem_append_right _ (List.mem_append_right _ (List.mem_append_right _ (List.mem_append_right _ (List.mem_append_left _ (List.mem_of_getElem? (i := 10) rfl))))))), rfl⟩
theorem wd_1212 : (Jvm.Cond.code ({ cls := "ParlourLeaves", name := "book", desc := "(I)I" } : Jvm.MethodName) prog_1_method_33_code (3 : Nat) (Option.some Jvm.ClassFile.FieldType.int)) ∈ zTB := List.mem_filter.mpr ⟨List.mem_append_right _ (List.mem_append_right _ (List.mem_append_right _ (List.mem_append_right _ (List.mem_append_right _ (List.mem_append_right _ (List.mem_append_left _ (List.mem_of_getElem? (i := 12) rfl))))))), rfl⟩
theorem cv_L_155 : zCV RL RX11 155 yX11_book cX11_book 3 (some .int) 1 := ⟨rfl, ⟨by decide, by decide, by decide +kernel⟩, wd_1209, wd_1210, wd_1211, wd_1, wd_1212⟩
theorem dL_law_1115 : decode cL_law 1115 = .ok (.aload_n 2, 1) := by decide +kernel
theorem dL_law_1116 : decode cL_law 1116 = .ok (.aload_n 0, 1) := by decide +kernel
theorem dL_law_1117 : decode cL_law 1117 = .ok (.iload 4, 2) := by decide +kernel
theorem dL_law_1119 : decode cL_law 1119 = .ok (.iconst 1, 1) := by decide +kernel
theorem dL_law_1120 : decode cL_law 1120 = .ok (.iadd, 1) := by decide +kernel
theorem dL_law_1121 : decode cL_law 1121 = .ok (.iaload, 1) := by decide +kernel
theorem dL_law_1122 : decode cL_law 1122 = .ok (.invokevirtual 158, 3) := by decide +kernel
theorem wd_2012 : (Jvm.Cond.selects "ParlourLeavesModel" ({ cls := "ParlourLeavesModel", name := "book", desc := "(I)I" } : Jvm.MethodName) ({ cls := "ParlourLeavesModel", name := "book", desc := "(I)I" } : Jvm.MethodName)) ∈ zTB := List.mem_filter.mpr ⟨List.mem_append_right _ (List.mem_append_right _ (List.mem_append_right _ (List.mem_append_right _ (List.mem_append_right _ (List.mem_append_right _ (List.mem_append_right _ (List.mem_append_right _ (List.mem_append_right _ (List.mem_of_getElem? (i := 92) rfl))))))))), rfl⟩
theorem wd_2010 : (Jvm.Cond.methodLink "ParlourLeavesLaw" (158 : Nat) ({ cls := "ParlourLeavesModel", name := "book", desc := "(I)I" } : Jvm.MethodName)) ∈ zTB := List.mem_filter.mpr ⟨List.mem_append_right _ (List.mem_append_right _ (List.mem_append_right _ (List.mem_append_right _ (List.mem_append_right _ (List.mem_append_right _ (List.mem_append_right _ (List.mem_append_right _ (List.mem_append_right _ (List.mem_of_getElem? (i := 90) rfl))))))))), rfl⟩
theorem wd_2011 : (Jvm.Cond.instanceMethod ({ cls := "ParlourLeavesModel", name := "book", desc := "(I)I" } : Jvm.MethodName)) ∈ zTB := List.mem_filter.mpr ⟨List.mem_append_right _ (List.mem_append_right _ (List.mem_append_right _ (List.mem_append_right _ (List.mem_append_right _ (List.mem_append_right _ (List.mem_append_right _ (List.mem_append_right _ (List.mem_append_right _ (List.mem_of_getElem? (i := 91) rfl))))))))), rfl⟩
theorem wd_2013 : (Jvm.Cond.code ({ cls := "ParlourLeavesModel", name := "book", desc := "(I)I" } : Jvm.MethodName) prog_14_method_114_code (4 : Nat) (Option.some Jvm.ClassFile.FieldType.int)) ∈ zTB := List.mem_filter.mpr ⟨List.mem_append_right _ (List.mem_append_right _ (List.mem_append_right _ (List.mem_append_right _ (List.mem_append_right _ (List.mem_append_right _ (List.mem_append_right _ (List.mem_append_right _ (List.mem_append_right _ (List.mem_of_getElem? (i := 93) rfl))))))))), rfl⟩
theorem cv_L_158 : zCV RL RX12 158 yX12_book cX12_book 4 (some .int) 1 := ⟨rfl, ⟨by decide, by decide, by decide +kernel⟩, wd_2010, wd_2011, wd_2012, wd_19, wd_2013⟩
theorem dL_law_1125 : decode cL_law 1125 = .ok (.if_icmp .eq 143, 3) := by decide +kernel
set_option maxHeartbeats 1000000 in
set_option maxRecDepth 100000 in
theorem law_31 {p : Program} {l : Launch} {e : Env} {s : State} {m : MethodId} {below : List Frame} {meth : Method} {c : Code} {D : va_G} {cy : Nat → ClassId} {kK kV q qm : Nat → Nat} {o b L i cells slots : Nat} {xs : Nat → Int32} {Q : State → Prop} (cx : zX RL cL_law 7 p s m #[Value.ref b] c D cy) (hE : zEn kK kV (zAL s) s) (hX : va_X b L xs s s.heap) (hbl : b < s.heap.size) (hL : L ≤ 3072) (hi : i + 6 ≤ L) (hcl : cells + 2 ≤ 601024) (hsl : slots + 68 ≤ 7293034) (hl0 : l.stackTraces = false)
    (KC : ∀ (H : Heap) (locs : List Loc) (ls : Array Slot) (c1 s1 : Nat), zIv D cy s q qm o H locs → lv_has ls 7 [(4, .int (nI i)), (0, .ref b), (1, .ref (q 0)), (2, .ref (qm 0)), (3, .ref o)] → c1 ≤ cells + 2 → s1 ≤ slots + 68 → W p l e room_1 s m #[Value.ref b] below meth c H locs c1 s1 Q (F0 m 1268 ls []))
    {H : Heap} {locs : List Loc} {ls : Array Slot} (hv : zIv D cy s q qm o H locs) (hl : lv_has ls 7 [(4, .int (nI i)), (0, .ref b), (1, .ref (q 0)), (2, .ref (qm 0)), (3, .ref o)]) : W p l e room_1 s m #[Value.ref b] below meth c H locs cells slots Q (F0 m 1105 ls []) := by
  have hx := cx.1
  have hb := cx.2.1
  have hbA : ¬ zAL s b := Nat.not_le.mpr hbl
  have hRc : zRc cells slots room_1 := ⟨by show cells + 0 ≤ 601024; omega, by show slots + 0 ≤ 7293034; omega⟩
  have in1 : vp_in (nI i + (1 : Int32)) L := zl_in (j := 1) hi hL (by decide)
  obtain ⟨S, T, tx, u, f, r, hu, hse, hw, hS⟩ := hv
  obtain ⟨z, S', T', h1, h2, r2⟩ := ov_book r (xs (nI i + (1 : Int32)).toNatClampNeg)
  refine lv_aload_n (pc := 1105) hx hb dL_law_1105 rfl (lv_at hl 2 rfl) ?_
  refine lv_aload_n (pc := 1106) hx hb dL_law_1106 rfl (lv_at hl 1 rfl) ?_
  refine lv_iload (pc := 1107) hx hb dL_law_1107 (lv_at hl 0 rfl) ?_
  refine lv_iconst (pc := 1109) hx hb dL_law_1109 zc_1 ?_
  refine lv_iadd (pc := 1110) hx hb dL_law_1110 ?_
  refine va_sld (pc := 1111) hx hb hX hbl hbA hS in1 dL_law_1111 ?_
  refine zl_C (pc := 1112) (As := [.int (xs (nI i + (1 : Int32)).toNatClampNeg)]) (rest := []) cx cv_L_155 hse (mX11_book hse.qC h1) ⟨⟨rfl, rfl⟩, Nat.le_of_ble_eq_true rfl, Nat.le_of_ble_eq_true rfl⟩ hRc hS hw hl.1 rfl rfl (Nat.le_of_ble_eq_true rfl) dL_law_1112 (fun H locs hS hw => ?_)
  refine lv_aload_n (pc := 1115) hx hb dL_law_1115 rfl (lv_at hl 3 rfl) ?_
  refine lv_aload_n (pc := 1116) hx hb dL_law_1116 rfl (lv_at hl 1 rfl) ?_
  refine lv_iload (pc := 1117) hx hb dL_law_1117 (lv_at hl 0 rfl) ?_
  refine lv_iconst (pc := 1119) hx hb dL_law_1119 zc_1 ?_
  refine lv_iadd (pc := 1120) hx hb dL_law_1120 ?_
  refine va_sld (pc := 1121) hx hb hX hbl hbA hS in1 dL_law_1121 ?_
  refine zl_M (pc := 1122) (As := [.int (xs (nI i + (1 : Int32)).toNatClampNeg)]) (rest := [.int z]) cx cv_L_158 hse (mX12_book hse.qM h2) ⟨⟨rfl, rfl⟩, Nat.le_of_ble_eq_true rfl, Nat.le_of_ble_eq_true rfl⟩ hRc hS hw hl.1 rfl rfl (Nat.le_of_ble_eq_true rfl) dL_law_1122 (fun H locs hS hw => ?_)
  refine lv_icmp_eq (pc := 1125) (tgt := 1268) hx hb dL_law_1125 (by decide) (fun _ => ?_) (fun c0 => absurd rfl c0)
  exact KC _ _ ls _ _ ⟨S', T', tx, u, f, r2, hu, hse, hw, hS⟩ hl (by omega) (by omega)
theorem dL_law_1130 : decode cL_law 1130 = .ok (.aload_n 1, 1) := by decide +kernel
theorem dL_law_1131 : decode cL_law 1131 = .ok (.aload_n 0, 1) := by decide +kernel
theorem dL_law_1132 : decode cL_law 1132 = .ok (.iload 4, 2) := by decide +kernel
theorem dL_law_1134 : decode cL_law 1134 = .ok (.iconst 1, 1) := by decide +kernel
theorem dL_law_1135 : decode cL_law 1135 = .ok (.iadd, 1) := by decide +kernel
theorem dL_law_1136 : decode cL_law 1136 = .ok (.iaload, 1) := by decide +kernel
theorem dL_law_1137 : decode cL_law 1137 = .ok (.invokevirtual 159, 3) := by decide +kernel
theorem wd_1280 : (Jvm.Cond.selects "ParlourLeaves" ({ cls := "ParlourLeaves", name := "told", desc := "(I)I" } : Jvm.MethodName) ({ cls := "ParlourLeaves", name := "told", desc := "(I)I" } : Jvm.MethodName)) ∈ zTB := List.mem_filter.mpr ⟨List.mem_append_right _ (List.mem_append_right _ (List.mem_append_right _ (List.mem_append_right _ (List.mem_append_right _ (List.mem_append_right _ (List.mem_append_left _ (List.mem_of_getElem? (i := 80) rfl))))))), rfl⟩
theorem wd_1278 : (Jvm.Cond.methodLink "ParlourLeavesLaw" (159 : Nat) ({ cls := "ParlourLeaves", name := "told", desc := "(I)I" } : Jvm.MethodName)) ∈ zTB := List.mem_filter.mpr ⟨List.mem_append_right _ (List.mem_append_right _ (List.mem_append_right _ (List.mem_append_right _ (List.mem_append_right _ (List.mem_append_right _ (List.mem_append_left _ (List.mem_of_getElem? (i := 78) rfl))))))), rfl⟩
theorem wd_1279 : (Jvm.Cond.instanceMethod ({ cls := "ParlourLeaves", name := "told", desc := "(I)I" } : Jvm.MethodName)) ∈ zTB := List.mem_filter.mpr ⟨List.mem_append_right _ (List.mem_append_right _ (List.mem_append_right _ (List.mem_append_right _ (List.mem_append_right _ (List.mem_append_right _ (List.mem_append_left _ (List.mem_of_getElem? (i := 79) rfl))))))), rfl⟩
theorem wd_1281 : (Jvm.Cond.code ({ cls := "ParlourLeaves", name := "told", desc := "(I)I" } : Jvm.MethodName) prog_1_method_34_code (2 : Nat) (Option.some Jvm.ClassFile.FieldType.int)) ∈ zTB := List.mem_filter.mpr ⟨List.mem_append_right _ (List.mem_append_right _ (List.mem_append_right _ (List.mem_append_right _ (List.mem_append_right _ (List.mem_append_right _ (List.mem_append_left _ (List.mem_of_getElem? (i := 81) rfl))))))), rfl⟩
theorem cv_L_159 : zCV RL RX11 159 yX11_told cX11_told 2 (some .int) 1 := ⟨rfl, ⟨by decide, by decide, by decide +kernel⟩, wd_1278, wd_1279, wd_1280, wd_1, wd_1281⟩
theorem dL_law_1140 : decode cL_law 1140 = .ok (.aload_n 2, 1) := by decide +kernel
theorem dL_law_1141 : decode cL_law 1141 = .ok (.aload_n 0, 1) := by decide +kernel
theorem dL_law_1142 : decode cL_law 1142 = .ok (.iload 4, 2) := by decide +kernel
theorem dL_law_1144 : decode cL_law 1144 = .ok (.iconst 1, 1) := by decide +kernel
theorem dL_law_1145 : decode cL_law 1145 = .ok (.iadd, 1) := by decide +kernel
theorem dL_law_1146 : decode cL_law 1146 = .ok (.iaload, 1) := by decide +kernel
theorem dL_law_1147 : decode cL_law 1147 = .ok (.invokevirtual 162, 3) := by decide +kernel
theorem wd_2048 : (Jvm.Cond.selects "ParlourLeavesModel" ({ cls := "ParlourLeavesModel", name := "told", desc := "(I)I" } : Jvm.MethodName) ({ cls := "ParlourLeavesModel", name := "told", desc := "(I)I" } : Jvm.MethodName)) ∈ zTB := List.mem_filter.mpr ⟨List.mem_append_right _ (List.mem_append_right _ (List.mem_append_right _ (List.mem_append_right _ (List.mem_append_right _ (List.mem_append_right _ (List.mem_append_right _ (List.mem_append_right _ (List.mem_append_right _ (List.mem_of_getElem? (i := 128) rfl))))))))), rfl⟩
theorem wd_2046 : (Jvm.Cond.methodLink "ParlourLeavesLaw" (162 : Nat) ({ cls := "ParlourLeavesModel", name := "told", desc := "(I)I" } : Jvm.MethodName)) ∈ zTB := List.mem_filter.mpr ⟨List.mem_append_right _ (List.mem_append_right _ (List.mem_append_right _ (List.mem_append_right _ (List.mem_append_right _ (List.mem_append_right _ (List.mem_append_right _ (List.mem_append_right _ (List.mem_append_right _ (List.mem_of_getElem? (i := 126) rfl))))))))), rfl⟩
theorem wd_2047 : (Jvm.Cond.instanceMethod ({ cls := "ParlourLeavesModel", name := "told", desc := "(I)I" } : Jvm.MethodName)) ∈ zTB := List.mem_filter.mpr ⟨List.mem_append_right _ (List.mem_append_right _ (List.mem_append_right _ (List.mem_append_right _ (List.mem_append_right _ (List.mem_append_right _ (List.mem_append_right _ (List.mem_append_right _ (List.mem_append_right _ (List.mem_of_getElem? (i := 127) rfl))))))))), rfl⟩
theorem wd_2049 : (Jvm.Cond.code ({ cls := "ParlourLeavesModel", name := "told", desc := "(I)I" } : Jvm.MethodName) prog_14_method_116_code (2 : Nat) (Option.some Jvm.ClassFile.FieldType.int)) ∈ zTB := List.mem_filter.mpr ⟨List.mem_append_right _ (List.mem_append_right _ (List.mem_append_right _ (List.mem_append_right _ (List.mem_append_right _ (List.mem_append_right _ (List.mem_append_right _ (List.mem_append_right _ (List.mem_append_right _ (List.mem_of_getElem? (i := 129) rfl))))))))), rfl⟩
theorem cv_L_162 : zCV RL RX12 162 yX12_told cX12_told 2 (some .int) 1 := ⟨rfl, ⟨by decide, by decide, by decide +kernel⟩, wd_2046, wd_2047, wd_2048, wd_19, wd_2049⟩
theorem dL_law_1150 : decode cL_law 1150 = .ok (.if_icmp .eq 118, 3) := by decide +kernel
set_option maxHeartbeats 1000000 in
set_option maxRecDepth 100000 in
theorem law_32 {p : Program} {l : Launch} {e : Env} {s : State} {m : MethodId} {below : List Frame} {meth : Method} {c : Code} {D : va_G} {cy : Nat → ClassId} {kK kV q qm : Nat → Nat} {o b L i cells slots : Nat} {xs : Nat → Int32} {Q : State → Prop} (cx : zX RL cL_law 7 p s m #[Value.ref b] c D cy) (hE : zEn kK kV (zAL s) s) (hX : va_X b L xs s s.heap) (hbl : b < s.heap.size) (hL : L ≤ 3072) (hi : i + 6 ≤ L) (hcl : cells + 2 ≤ 601024) (hsl : slots + 68 ≤ 7293034) (hl0 : l.stackTraces = false)
    (KC : ∀ (H : Heap) (locs : List Loc) (ls : Array Slot) (c1 s1 : Nat), zIv D cy s q qm o H locs → lv_has ls 7 [(4, .int (nI i)), (0, .ref b), (1, .ref (q 0)), (2, .ref (qm 0)), (3, .ref o)] → c1 ≤ cells + 2 → s1 ≤ slots + 68 → W p l e room_1 s m #[Value.ref b] below meth c H locs c1 s1 Q (F0 m 1268 ls []))
    {H : Heap} {locs : List Loc} {ls : Array Slot} (hv : zIv D cy s q qm o H locs) (hl : lv_has ls 7 [(4, .int (nI i)), (0, .ref b), (1, .ref (q 0)), (2, .ref (qm 0)), (3, .ref o)]) : W p l e room_1 s m #[Value.ref b] below meth c H locs cells slots Q (F0 m 1130 ls []) := by
  have hx := cx.1
  have hb := cx.2.1
  have hbA : ¬ zAL s b := Nat.not_le.mpr hbl
  have hRc : zRc cells slots room_1 := ⟨by show cells + 0 ≤ 601024; omega, by show slots + 0 ≤ 7293034; omega⟩
  have in1 : vp_in (nI i + (1 : Int32)) L := zl_in (j := 1) hi hL (by decide)
  obtain ⟨S, T, tx, u, f, r, hu, hse, hw, hS⟩ := hv
  obtain ⟨z, T', h1, h2, r2⟩ := ov_told r (xs (nI i + (1 : Int32)).toNatClampNeg)
  refine lv_aload_n (pc := 1130) hx hb dL_law_1130 rfl (lv_at hl 2 rfl) ?_
  refine lv_aload_n (pc := 1131) hx hb dL_law_1131 rfl (lv_at hl 1 rfl) ?_
  refine lv_iload (pc := 1132) hx hb dL_law_1132 (lv_at hl 0 rfl) ?_
  refine lv_iconst (pc := 1134) hx hb dL_law_1134 zc_1 ?_
  refine lv_iadd (pc := 1135) hx hb dL_law_1135 ?_
  refine va_sld (pc := 1136) hx hb hX hbl hbA hS in1 dL_law_1136 ?_
  refine zr_VI (pc := 1137) (As := [.int (xs (nI i + (1 : Int32)).toNatClampNeg)]) (rest := []) cx cv_L_159 (mX11_told h1) ⟨⟨rfl, rfl⟩, Nat.le_of_ble_eq_true rfl, Nat.le_of_ble_eq_true rfl⟩ hRc hw.1 nC_0 sC_0 rfl hl.1 rfl rfl (Nat.le_of_ble_eq_true rfl) dL_law_1137 ?_
  refine lv_aload_n (pc := 1140) hx hb dL_law_1140 rfl (lv_at hl 3 rfl) ?_
  refine lv_aload_n (pc := 1141) hx hb dL_law_1141 rfl (lv_at hl 1 rfl) ?_
  refine lv_iload (pc := 1142) hx hb dL_law_1142 (lv_at hl 0 rfl) ?_
  refine lv_iconst (pc := 1144) hx hb dL_law_1144 zc_1 ?_
  refine lv_iadd (pc := 1145) hx hb dL_law_1145 ?_
  refine va_sld (pc := 1146) hx hb hX hbl hbA hS in1 dL_law_1146 ?_
  refine zl_M (pc := 1147) (As := [.int (xs (nI i + (1 : Int32)).toNatClampNeg)]) (rest := [.int z]) cx cv_L_162 hse (mX12_told hse.qM h2) ⟨⟨rfl, rfl⟩, Nat.le_of_ble_eq_true rfl, Nat.le_of_ble_eq_true rfl⟩ hRc hS hw hl.1 rfl rfl (Nat.le_of_ble_eq_true rfl) dL_law_1147 (fun H locs hS hw => ?_)
  refine lv_icmp_eq (pc := 1150) (tgt := 1268) hx hb dL_law_1150 (by decide) (fun _ => ?_) (fun c0 => absurd rfl c0)
  exact KC _ _ ls _ _ ⟨S, T', tx, u, f, r2, hu, hse, hw, hS⟩ hl (by omega) (by omega)
theorem dL_law_1155 : decode cL_law 1155 = .ok (.aload_n 1, 1) := by decide +kernel
theorem dL_law_1156 : decode cL_law 1156 = .ok (.invokevirtual 163, 3) := by decide +kernel
theorem wd_1284 : (Jvm.Cond.selects "ParlourLeaves" ({ cls := "ParlourLeaves", name := "sentence", desc := "()I" } : Jvm.MethodName) ({ cls := "ParlourLeaves", name := "sentence", desc := "()I" } : Jvm.MethodName)) ∈ zTB := List.mem_filter.mpr ⟨List.mem_append_right _ (List.mem_append_right _ (List.mem_append_right _ (List.mem_append_right _ (List.mem_append_right _ (List.mem_append_right _ (List.mem_append_left _ (List.mem_of_getElem? (i := 84) rfl))))))), rfl⟩
theorem wd_1282 : (Jvm.Cond.methodLink "ParlourLeavesLaw" (163 : Nat) ({ cls := "ParlourLeaves", name := "sentence", desc := "()I" } : Jvm.MethodName)) ∈ zTB := List.mem_filter.mpr ⟨List.mem_append_right _ (List.mem_append_right _ (List.mem_append_right _ (List.mem_append_right _ (List.mem_append_right _ (List.mem_append_right _ (List.mem_append_left _ (List.mem_of_getElem? (i := 82) rfl))))))), rfl⟩
theorem wd_1283 : (Jvm.Cond.instanceMethod ({ cls := "ParlourLeaves", name := "sentence", desc := "()I" } : Jvm.MethodName)) ∈ zTB := List.mem_filter.mpr ⟨List.mem_append_right _ (List.mem_append_right _ (List.mem_append_right _ (List.mem_append_right _ (List.mem_append_right _ (List.mem_append_right _ (List.mem_append_left _ (List.mem_of_getElem? (i := 83) rfl))))))), rfl⟩
theorem wd_1285 : (Jvm.Cond.code ({ cls := "ParlourLeaves", name := "sentence", desc := "()I" } : Jvm.MethodName) prog_1_method_35_code (2 : Nat) (Option.some Jvm.ClassFile.FieldType.int)) ∈ zTB := List.mem_filter.mpr ⟨List.mem_append_right _ (List.mem_append_right _ (List.mem_append_right _ (List.mem_append_right _ (List.mem_append_right _ (List.mem_append_right _ (List.mem_append_left _ (List.mem_of_getElem? (i := 85) rfl))))))), rfl⟩
theorem cv_L_163 : zCV RL RX11 163 yX11_sentence cX11_sentence 2 (some .int) 0 := ⟨rfl, ⟨by decide, by decide, by decide +kernel⟩, wd_1282, wd_1283, wd_1284, wd_1, wd_1285⟩
theorem dL_law_1159 : decode cL_law 1159 = .ok (.aload_n 2, 1) := by decide +kernel
theorem dL_law_1160 : decode cL_law 1160 = .ok (.invokevirtual 166, 3) := by decide +kernel
theorem wd_2052 : (Jvm.Cond.selects "ParlourLeavesModel" ({ cls := "ParlourLeavesModel", name := "sentence", desc := "()I" } : Jvm.MethodName) ({ cls := "ParlourLeavesModel", name := "sentence", desc := "()I" } : Jvm.MethodName)) ∈ zTB := List.mem_filter.mpr ⟨List.mem_append_right _ (List.mem_append_right _ (List.mem_append_right _ (List.mem_append_right _ (List.mem_append_right _ (List.mem_append_right _ (List.mem_append_right _ (List.mem_append_right _ (List.mem_append_right _ (List.mem_of_getElem? (i := 132) rfl))))))))), rfl⟩
theorem wd_2050 : (Jvm.Cond.methodLink "ParlourLeavesLaw" (166 : Nat) ({ cls := "ParlourLeavesModel", name := "sentence", desc := "()I" } : Jvm.MethodName)) ∈ zTB := List.mem_filter.mpr ⟨List.mem_append_right _ (List.mem_append_right _ (List.mem_append_right _ (List.mem_append_right _ (List.mem_append_right _ (List.mem_append_right _ (List.mem_append_right _ (List.mem_append_right _ (List.mem_append_right _ (List.mem_of_getElem? (i := 130) rfl))))))))), rfl⟩
theorem wd_2051 : (Jvm.Cond.instanceMethod ({ cls := "ParlourLeavesModel", name := "sentence", desc := "()I" } : Jvm.MethodName)) ∈ zTB := List.mem_filter.mpr ⟨List.mem_append_right _ (List.mem_append_right _ (List.mem_append_right _ (List.mem_append_right _ (List.mem_append_right _ (List.mem_append_right _ (List.mem_append_right _ (List.mem_append_right _ (List.mem_append_right _ (List.mem_of_getElem? (i := 131) rfl))))))))), rfl⟩
theorem wd_2053 : (Jvm.Cond.code ({ cls := "ParlourLeavesModel", name := "sentence", desc := "()I" } : Jvm.MethodName) prog_14_method_126_code (2 : Nat) (Option.some Jvm.ClassFile.FieldType.int)) ∈ zTB := List.mem_filter.mpr ⟨List.mem_append_right _ (List.mem_append_right _ (List.mem_append_right _ (List.mem_append_right _ (List.mem_append_right _ (List.mem_append_right _ (List.mem_append_right _ (List.mem_append_right _ (List.mem_append_right _ (List.mem_of_getElem? (i := 133) rfl))))))))), rfl⟩
theorem cv_L_166 : zCV RL RX12 166 yX12_sentence cX12_sentence 2 (some .int) 0 := ⟨rfl, ⟨by decide, by decide, by decide +kernel⟩, wd_2050, wd_2051, wd_2052, wd_19, wd_2053⟩
theorem dL_law_1163 : decode cL_law 1163 = .ok (.if_icmp .eq 105, 3) := by decide +kernel
set_option maxHeartbeats 1000000 in
set_option maxRecDepth 100000 in
theorem law_33 {p : Program} {l : Launch} {e : Env} {s : State} {m : MethodId} {below : List Frame} {meth : Method} {c : Code} {D : va_G} {cy : Nat → ClassId} {kK kV q qm : Nat → Nat} {o b L i cells slots : Nat} {xs : Nat → Int32} {Q : State → Prop} (cx : zX RL cL_law 7 p s m #[Value.ref b] c D cy) (hE : zEn kK kV (zAL s) s) (hX : va_X b L xs s s.heap) (hbl : b < s.heap.size) (hL : L ≤ 3072) (hi : i + 6 ≤ L) (hcl : cells + 2 ≤ 601024) (hsl : slots + 68 ≤ 7293034) (hl0 : l.stackTraces = false)
    (KC : ∀ (H : Heap) (locs : List Loc) (ls : Array Slot) (c1 s1 : Nat), zIv D cy s q qm o H locs → lv_has ls 7 [(4, .int (nI i)), (0, .ref b), (1, .ref (q 0)), (2, .ref (qm 0)), (3, .ref o)] → c1 ≤ cells + 2 → s1 ≤ slots + 68 → W p l e room_1 s m #[Value.ref b] below meth c H locs c1 s1 Q (F0 m 1268 ls []))
    {H : Heap} {locs : List Loc} {ls : Array Slot} (hv : zIv D cy s q qm o H locs) (hl : lv_has ls 7 [(4, .int (nI i)), (0, .ref b), (1, .ref (q 0)), (2, .ref (qm 0)), (3, .ref o)]) : W p l e room_1 s m #[Value.ref b] below meth c H locs cells slots Q (F0 m 1155 ls []) := by
  have hx := cx.1
  have hb := cx.2.1
  have hbA : ¬ zAL s b := Nat.not_le.mpr hbl
  have hRc : zRc cells slots room_1 := ⟨by show cells + 0 ≤ 601024; omega, by show slots + 0 ≤ 7293034; omega⟩
  obtain ⟨S, T, tx, u, f, r, hu, hse, hw, hS⟩ := hv
  obtain ⟨z, S', T', h1, h2, r2⟩ := ov_sentence r 
  refine lv_aload_n (pc := 1155) hx hb dL_law_1155 rfl (lv_at hl 2 rfl) ?_
  refine zl_C (pc := 1156) (As := []) (rest := []) cx cv_L_163 hse (mX11_sentence hse.qC h1) ⟨⟨rfl, rfl⟩, Nat.le_of_ble_eq_true rfl, Nat.le_of_ble_eq_true rfl⟩ hRc hS hw hl.1 rfl rfl (Nat.le_of_ble_eq_true rfl) dL_law_1156 (fun H locs hS hw => ?_)
  refine lv_aload_n (pc := 1159) hx hb dL_law_1159 rfl (lv_at hl 3 rfl) ?_
  refine zl_M (pc := 1160) (As := []) (rest := [.int z]) cx cv_L_166 hse (mX12_sentence hse.qM h2) ⟨⟨rfl, rfl⟩, Nat.le_of_ble_eq_true rfl, Nat.le_of_ble_eq_true rfl⟩ hRc hS hw hl.1 rfl rfl (Nat.le_of_ble_eq_true rfl) dL_law_1160 (fun H locs hS hw => ?_)
  refine lv_icmp_eq (pc := 1163) (tgt := 1268) hx hb dL_law_1163 (by decide) (fun _ => ?_) (fun c0 => absurd rfl c0)
  exact KC _ _ ls _ _ ⟨S', T', tx, u, f, r2, hu, hse, hw, hS⟩ hl (by omega) (by omega)
theorem dL_law_1168 : decode cL_law 1168 = .ok (.aload_n 1, 1) := by decide +kernel
theorem dL_law_1169 : decode cL_law 1169 = .ok (.aload_n 0, 1) := by decide +kernel
theorem dL_law_1170 : decode cL_law 1170 = .ok (.iload 4, 2) := by decide +kernel
theorem dL_law_1172 : decode cL_law 1172 = .ok (.iconst 1, 1) := by decide +kernel
theorem dL_law_1173 : decode cL_law 1173 = .ok (.iadd, 1) := by decide +kernel
theorem dL_law_1174 : decode cL_law 1174 = .ok (.iaload, 1) := by decide +kernel
theorem dL_law_1175 : decode cL_law 1175 = .ok (.invokevirtual 167, 3) := by decide +kernel
theorem wd_1327 : (Jvm.Cond.selects "ParlourLeaves" ({ cls := "ParlourLeaves", name := "said", desc := "(I)I" } : Jvm.MethodName) ({ cls := "ParlourLeaves", name := "said", desc := "(I)I" } : Jvm.MethodName)) ∈ zTB := List.mem_filter.mpr ⟨List.mem_append_right _ (List.mem_append_right _ (List.mem_append_right _ (List.mem_append_right _ (List.mem_append_right _ (List.mem_append_right _ (List.mem_append_left _ (List.mem_of_getElem? (i := 127) rfl))))))), rfl⟩
theorem wd_1325 : (Jvm.Cond.methodLink "ParlourLeavesLaw" (167 : Nat) ({ cls := "ParlourLeaves", name := "said", desc := "(I)I" } : Jvm.MethodName)) ∈ zTB := List.mem_filter.mpr ⟨List.mem_append_right _ (List.mem_append_right _ (List.mem_append_right _ (List.mem_append_right _ (List.mem_append_right _ (List.mem_append_right _ (List.mem_append_left _ (List.mem_of_getElem? (i := 125) rfl))))))), rfl⟩
theorem wd_1326 : (Jvm.Cond.instanceMethod ({ cls := "ParlourLeaves", name := "said", desc := "(I)I" } : Jvm.MethodName)) ∈ zTB := List.mem_filter.mpr ⟨List.mem_append_right _ (List.mem_append_right _ (List.mem_append_right _ (List.mem_append_right _ (List.mem_append_right _ (List.mem_append_right _ (List.mem_append_left _ (List.mem_of_getElem? (i := 126) rfl))))))), rfl⟩
theorem wd_1328 : (Jvm.Cond.code ({ cls := "ParlourLeaves", name := "said", desc := "(I)I" } : Jvm.MethodName) prog_1_method_36_code (3 : Nat) (Option.some Jvm.ClassFile.FieldType.int)) ∈ zTB := List.mem_filter.mpr ⟨List.mem_append_right _ (List.mem_append_right _ (List.mem_append_right _ (List.mem_append_right _ (List.mem_append_right _ (List.mem_append_right _ (List.mem_append_left _ (List.mem_of_getElem? (i := 128) rfl))))))), rfl⟩
theorem cv_L_167 : zCV RL RX11 167 yX11_said cX11_said 3 (some .int) 1 := ⟨rfl, ⟨by decide, by decide, by decide +kernel⟩, wd_1325, wd_1326, wd_1327, wd_1, wd_1328⟩
theorem dL_law_1178 : decode cL_law 1178 = .ok (.aload_n 2, 1) := by decide +kernel
theorem dL_law_1179 : decode cL_law 1179 = .ok (.aload_n 0, 1) := by decide +kernel
theorem dL_law_1180 : decode cL_law 1180 = .ok (.iload 4, 2) := by decide +kernel
theorem dL_law_1182 : decode cL_law 1182 = .ok (.iconst 1, 1) := by decide +kernel
theorem dL_law_1183 : decode cL_law 1183 = .ok (.iadd, 1) := by decide +kernel
theorem dL_law_1184 : decode cL_law 1184 = .ok (.iaload, 1) := by decide +kernel
theorem dL_law_1185 : decode cL_law 1185 = .ok (.invokevirtual 170, 3) := by decide +kernel
theorem wd_2088 : (Jvm.Cond.selects "ParlourLeavesModel" ({ cls := "ParlourLeavesModel", name := "said", desc := "(I)I" } : Jvm.MethodName) ({ cls := "ParlourLeavesModel", name := "said", desc := "(I)I" } : Jvm.MethodName)) ∈ zTB := List.mem_filter.mpr ⟨List.mem_append_right _ (List.mem_append_right _ (List.mem_append_right _ (List.mem_append_right _ (List.mem_append_right _ (List.mem_append_right _ (List.mem_append_right _ (List.mem_append_right _ (List.mem_append_right _ (List.mem_of_getElem? (i := 168) rfl))))))))), rfl⟩
theorem wd_2086 : (Jvm.Cond.methodLink "ParlourLeavesLaw" (170 : Nat) ({ cls := "ParlourLeavesModel", name := "said", desc := "(I)I" } : Jvm.MethodName)) ∈ zTB := List.mem_filter.mpr ⟨List.mem_append_right _ (List.mem_append_right _ (List.mem_append_right _ (List.mem_append_right _ (List.mem_append_right _ (List.mem_append_right _ (List.mem_append_right _ (List.mem_append_right _ (List.mem_append_right _ (List.mem_of_getElem? (i := 166) rfl))))))))), rfl⟩
theorem wd_2087 : (Jvm.Cond.instanceMethod ({ cls := "ParlourLeavesModel", name := "said", desc := "(I)I" } : Jvm.MethodName)) ∈ zTB := List.mem_filter.mpr ⟨List.mem_append_right _ (List.mem_append_right _ (List.mem_append_right _ (List.mem_append_right _ (List.mem_append_right _ (List.mem_append_right _ (List.mem_append_right _ (List.mem_append_right _ (List.mem_append_right _ (List.mem_of_getElem? (i := 167) rfl))))))))), rfl⟩
theorem wd_2089 : (Jvm.Cond.code ({ cls := "ParlourLeavesModel", name := "said", desc := "(I)I" } : Jvm.MethodName) prog_14_method_128_code (4 : Nat) (Option.some Jvm.ClassFile.FieldType.int)) ∈ zTB := List.mem_filter.mpr ⟨List.mem_append_right _ (List.mem_append_right _ (List.mem_append_right _ (List.mem_append_right _ (List.mem_append_right _ (List.mem_append_right _ (List.mem_append_right _ (List.mem_append_right _ (List.mem_append_right _ (List.mem_of_getElem? (i := 169) rfl))))))))), rfl⟩
theorem cv_L_170 : zCV RL RX12 170 yX12_said cX12_said 4 (some .int) 1 := ⟨rfl, ⟨by decide, by decide, by decide +kernel⟩, wd_2086, wd_2087, wd_2088, wd_19, wd_2089⟩
theorem dL_law_1188 : decode cL_law 1188 = .ok (.if_icmp .eq 80, 3) := by decide +kernel
set_option maxHeartbeats 1000000 in
set_option maxRecDepth 100000 in
theorem law_34 {p : Program} {l : Launch} {e : Env} {s : State} {m : MethodId} {below : List Frame} {meth : Method} {c : Code} {D : va_G} {cy : Nat → ClassId} {kK kV q qm : Nat → Nat} {o b L i cells slots : Nat} {xs : Nat → Int32} {Q : State → Prop} (cx : zX RL cL_law 7 p s m #[Value.ref b] c D cy) (hE : zEn kK kV (zAL s) s) (hX : va_X b L xs s s.heap) (hbl : b < s.heap.size) (hL : L ≤ 3072) (hi : i + 6 ≤ L) (hcl : cells + 2 ≤ 601024) (hsl : slots + 68 ≤ 7293034) (hl0 : l.stackTraces = false)
    (KC : ∀ (H : Heap) (locs : List Loc) (ls : Array Slot) (c1 s1 : Nat), zIv D cy s q qm o H locs → lv_has ls 7 [(4, .int (nI i)), (0, .ref b), (1, .ref (q 0)), (2, .ref (qm 0)), (3, .ref o)] → c1 ≤ cells + 2 → s1 ≤ slots + 68 → W p l e room_1 s m #[Value.ref b] below meth c H locs c1 s1 Q (F0 m 1268 ls []))
    {H : Heap} {locs : List Loc} {ls : Array Slot} (hv : zIv D cy s q qm o H locs) (hl : lv_has ls 7 [(4, .int (nI i)), (0, .ref b), (1, .ref (q 0)), (2, .ref (qm 0)), (3, .ref o)]) : W p l e room_1 s m #[Value.ref b] below meth c H locs cells slots Q (F0 m 1168 ls []) := by
  have hx := cx.1
  have hb := cx.2.1
  have hbA : ¬ zAL s b := Nat.not_le.mpr hbl
  have hRc : zRc cells slots room_1 := ⟨by show cells + 0 ≤ 601024; omega, by show slots + 0 ≤ 7293034; omega⟩
  have in1 : vp_in (nI i + (1 : Int32)) L := zl_in (j := 1) hi hL (by decide)
  obtain ⟨S, T, tx, u, f, r, hu, hse, hw, hS⟩ := hv
  obtain ⟨z, S', T', h1, h2, r2⟩ := ov_said r (xs (nI i + (1 : Int32)).toNatClampNeg)
  refine lv_aload_n (pc := 1168) hx hb dL_law_1168 rfl (lv_at hl 2 rfl) ?_
  refine lv_aload_n (pc := 1169) hx hb dL_law_1169 rfl (lv_at hl 1 rfl) ?_
  refine lv_iload (pc := 1170) hx hb dL_law_1170 (lv_at hl 0 rfl) ?_
  refine lv_iconst (pc := 1172) hx hb dL_law_1172 zc_1 ?_
  refine lv_iadd (pc := 1173) hx hb dL_law_1173 ?_
  refine va_sld (pc := 1174) hx hb hX hbl hbA hS in1 dL_law_1174 ?_
  refine zl_C (pc := 1175) (As := [.int (xs (nI i + (1 : Int32)).toNatClampNeg)]) (rest := []) cx cv_L_167 hse (mX11_said hse.qC h1) ⟨⟨rfl, rfl⟩, Nat.le_of_ble_eq_true rfl, Nat.le_of_ble_eq_true rfl⟩ hRc hS hw hl.1 rfl rfl (Nat.le_of_ble_eq_true rfl) dL_law_1175 (fun H locs hS hw => ?_)
  refine lv_aload_n (pc := 1178) hx hb dL_law_1178 rfl (lv_at hl 3 rfl) ?_
  refine lv_aload_n (pc := 1179) hx hb dL_law_1179 rfl (lv_at hl 1 rfl) ?_
  refine lv_iload (pc := 1180) hx hb dL_law_1180 (lv_at hl 0 rfl) ?_
  refine lv_iconst (pc := 1182) hx hb dL_law_1182 zc_1 ?_
  refine lv_iadd (pc := 1183) hx hb dL_law_1183 ?_
  refine va_sld (pc := 1184) hx hb hX hbl hbA hS in1 dL_law_1184 ?_
  refine zl_M (pc := 1185) (As := [.int (xs (nI i + (1 : Int32)).toNatClampNeg)]) (rest := [.int z]) cx cv_L_170 hse (mX12_said hse.qM h2) ⟨⟨rfl, rfl⟩, Nat.le_of_ble_eq_true rfl, Nat.le_of_ble_eq_true rfl⟩ hRc hS hw hl.1 rfl rfl (Nat.le_of_ble_eq_true rfl) dL_law_1185 (fun H locs hS hw => ?_)
  refine lv_icmp_eq (pc := 1188) (tgt := 1268) hx hb dL_law_1188 (by decide) (fun _ => ?_) (fun c0 => absurd rfl c0)
  exact KC _ _ ls _ _ ⟨S', T', tx, u, f, r2, hu, hse, hw, hS⟩ hl (by omega) (by omega)
theorem dL_law_1193 : decode cL_law 1193 = .ok (.aload_n 1, 1) := by decide +kernel
theorem dL_law_1194 : decode cL_law 1194 = .ok (.aload_n 0, 1) := by decide +kernel
theorem dL_law_1195 : decode cL_law 1195 = .ok (.iload 4, 2) := by decide +kernel
theorem dL_law_1197 : decode cL_law 1197 = .ok (.iconst 1, 1) := by decide +kernel
theorem dL_law_1198 : decode cL_law 1198 = .ok (.iadd, 1) := by decide +kernel
theorem dL_law_1199 : decode cL_law 1199 = .ok (.iaload, 1) := by decide +kernel
theorem dL_law_1200 : decode cL_law 1200 = .ok (.invokevirtual 171, 3) := by decide +kernel
theorem wd_1359 : (Jvm.Cond.selects "ParlourLeaves" ({ cls := "ParlourLeaves", name := "image", desc := "(I)Z" } : Jvm.MethodName) ({ cls := "ParlourLeaves", name := "image", desc := "(I)Z" } : Jvm.MethodName)) ∈ zTB := List.mem_filter.mpr ⟨List.mem_append_right _ (List.mem_append_right _ (List.mem_append_right _ (List.mem_append_right _ (List.mem_append_right _ (List.mem_append_right _ (List.mem_append_left _ (List.mem_of_getElem? (i := 159) rfl))))))), rfl⟩
theorem wd_1357 : (Jvm.Cond.methodLink "ParlourLeavesLaw" (171 : Nat) ({ cls := "ParlourLeaves", name := "image", desc := "(I)Z" } : Jvm.MethodName)) ∈ zTB := List.mem_filter.mpr ⟨List.mem_append_right _ (List.mem_append_right _ (List.mem_append_right _ (List.mem_append_right _ (List.mem_append_right _ (List.mem_append_right _ (List.mem_append_left _ (List.mem_of_getElem? (i := 157) rfl))))))), rfl⟩
theorem wd_1358 : (Jvm.Cond.instanceMethod ({ cls := "ParlourLeaves", name := "image", desc := "(I)Z" } : Jvm.MethodName)) ∈ zTB := List.mem_filter.mpr ⟨List.mem_append_right _ (List.mem_append_right _ (List.mem_append_right _ (List.mem_append_right _ (List.mem_append_right _ (List.mem_append_right _ (List.mem_append_left _ (List.mem_of_getElem? (i := 158) rfl))))))), rfl⟩
theorem wd_1360 : (Jvm.Cond.code ({ cls := "ParlourLeaves", name := "image", desc := "(I)Z" } : Jvm.MethodName) prog_1_method_37_code (2 : Nat) (Option.some Jvm.ClassFile.FieldType.boolean)) ∈ zTB := List.mem_filter.mpr ⟨List.mem_append_right _ (List.mem_append_right _ (List.mem_append_right _ (List.mem_append_right _ (List.mem_append_right _ (List.mem_append_right _ (List.mem_append_left _ (List.mem_of_getElem? (i := 160) rfl))))))), rfl⟩
theorem cv_L_171 : zCV RL RX11 171 yX11_image cX11_image 2 (some .boolean) 1 := ⟨rfl, ⟨by decide, by decide, by decide +kernel⟩, wd_1357, wd_1358, wd_1359, wd_1, wd_1360⟩
theorem dL_law_1203 : decode cL_law 1203 = .ok (.aload_n 2, 1) := by decide +kernel
theorem dL_law_1204 : decode cL_law 1204 = .ok (.aload_n 0, 1) := by decide +kernel
theorem dL_law_1205 : decode cL_law 1205 = .ok (.iload 4, 2) := by decide +kernel
theorem dL_law_1207 : decode cL_law 1207 = .ok (.iconst 1, 1) := by decide +kernel
theorem dL_law_1208 : decode cL_law 1208 = .ok (.iadd, 1) := by decide +kernel
theorem dL_law_1209 : decode cL_law 1209 = .ok (.iaload, 1) := by decide +kernel
theorem dL_law_1210 : decode cL_law 1210 = .ok (.invokevirtual 174, 3) := by decide +kernel
theorem wd_2100 : (Jvm.Cond.selects "ParlourLeavesModel" ({ cls := "ParlourLeavesModel", name := "image", desc := "(I)Z" } : Jvm.MethodName) ({ cls := "ParlourLeavesModel", name := "image", desc := "(I)Z" } : Jvm.MethodName)) ∈ zTB := List.mem_filter.mpr ⟨List.mem_append_right _ (List.mem_append_right _ (List.mem_append_right _ (List.mem_append_right _ (List.mem_append_right _ (List.mem_append_right _ (List.mem_append_right _ (List.mem_append_right _ (List.mem_append_right _ (List.mem_of_getElem? (i := 180) rfl))))))))), rfl⟩
theorem wd_2098 : (Jvm.Cond.methodLink "ParlourLeavesLaw" (174 : Nat) ({ cls := "ParlourLeavesModel", name := "image", desc := "(I)Z" } : Jvm.MethodName)) ∈ zTB := List.mem_filter.mpr ⟨List.mem_append_right _ (List.mem_append_right _ (List.mem_append_right _ (List.mem_append_right _ (List.mem_append_right _ (List.mem_append_right _ (List.mem_append_right _ (List.mem_append_right _ (List.mem_append_right _ (List.mem_of_getElem? (i := 178) rfl))))))))), rfl⟩
theorem wd_2099 : (Jvm.Cond.instanceMethod ({ cls := "ParlourLeavesModel", name := "image", desc := "(I)Z" } : Jvm.MethodName)) ∈ zTB := List.mem_filter.mpr ⟨List.mem_append_right _ (List.mem_append_right _ (List.mem_append_right _ (List.mem_append_right _ (List.mem_append_right _ (List.mem_append_right _ (List.mem_append_right _ (List.mem_append_right _ (List.mem_append_right _ (List.mem_of_getElem? (i := 179) rfl))))))))), rfl⟩
theorem wd_2101 : (Jvm.Cond.code ({ cls := "ParlourLeavesModel", name := "image", desc := "(I)Z" } : Jvm.MethodName) prog_14_method_129_code (3 : Nat) (Option.some Jvm.ClassFile.FieldType.boolean)) ∈ zTB := List.mem_filter.mpr ⟨List.mem_append_right _ (List.mem_append_right _ (List.mem_append_right _ (List.mem_append_right _ (List.mem_append_right _ (List.mem_append_right _ (List.mem_append_right _ (List.mem_append_right _ (List.mem_append_right _ (List.mem_of_getElem? (i := 181) rfl))))))))), rfl⟩
theorem cv_L_174 : zCV RL RX12 174 yX12_image cX12_image 3 (some .boolean) 1 := ⟨rfl, ⟨by decide, by decide, by decide +kernel⟩, wd_2098, wd_2099, wd_2100, wd_19, wd_2101⟩
theorem dL_law_1213 : decode cL_law 1213 = .ok (.if_icmp .eq 55, 3) := by decide +kernel
set_option maxHeartbeats 1000000 in
set_option maxRecDepth 100000 in
theorem law_35 {p : Program} {l : Launch} {e : Env} {s : State} {m : MethodId} {below : List Frame} {meth : Method} {c : Code} {D : va_G} {cy : Nat → ClassId} {kK kV q qm : Nat → Nat} {o b L i cells slots : Nat} {xs : Nat → Int32} {Q : State → Prop} (cx : zX RL cL_law 7 p s m #[Value.ref b] c D cy) (hE : zEn kK kV (zAL s) s) (hX : va_X b L xs s s.heap) (hbl : b < s.heap.size) (hL : L ≤ 3072) (hi : i + 6 ≤ L) (hcl : cells + 2 ≤ 601024) (hsl : slots + 68 ≤ 7293034) (hl0 : l.stackTraces = false)
    (KC : ∀ (H : Heap) (locs : List Loc) (ls : Array Slot) (c1 s1 : Nat), zIv D cy s q qm o H locs → lv_has ls 7 [(4, .int (nI i)), (0, .ref b), (1, .ref (q 0)), (2, .ref (qm 0)), (3, .ref o)] → c1 ≤ cells + 2 → s1 ≤ slots + 68 → W p l e room_1 s m #[Value.ref b] below meth c H locs c1 s1 Q (F0 m 1268 ls []))
    {H : Heap} {locs : List Loc} {ls : Array Slot} (hv : zIv D cy s q qm o H locs) (hl : lv_has ls 7 [(4, .int (nI i)), (0, .ref b), (1, .ref (q 0)), (2, .ref (qm 0)), (3, .ref o)]) : W p l e room_1 s m #[Value.ref b] below meth c H locs cells slots Q (F0 m 1193 ls []) := by
  have hx := cx.1
  have hb := cx.2.1
  have hbA : ¬ zAL s b := Nat.not_le.mpr hbl
  have hRc : zRc cells slots room_1 := ⟨by show cells + 0 ≤ 601024; omega, by show slots + 0 ≤ 7293034; omega⟩
  have in1 : vp_in (nI i + (1 : Int32)) L := zl_in (j := 1) hi hL (by decide)
  obtain ⟨S, T, tx, u, f, r, hu, hse, hw, hS⟩ := hv
  obtain ⟨z, S', T', h1, h2, r2⟩ := ov_image r (xs (nI i + (1 : Int32)).toNatClampNeg)
  refine lv_aload_n (pc := 1193) hx hb dL_law_1193 rfl (lv_at hl 2 rfl) ?_
  refine lv_aload_n (pc := 1194) hx hb dL_law_1194 rfl (lv_at hl 1 rfl) ?_
  refine lv_iload (pc := 1195) hx hb dL_law_1195 (lv_at hl 0 rfl) ?_
  refine lv_iconst (pc := 1197) hx hb dL_law_1197 zc_1 ?_
  refine lv_iadd (pc := 1198) hx hb dL_law_1198 ?_
  refine va_sld (pc := 1199) hx hb hX hbl hbA hS in1 dL_law_1199 ?_
  refine zl_C (pc := 1200) (As := [.int (xs (nI i + (1 : Int32)).toNatClampNeg)]) (rest := []) cx cv_L_171 hse (mX11_image hse.qC h1) ⟨⟨rfl, rfl⟩, Nat.le_of_ble_eq_true rfl, Nat.le_of_ble_eq_true rfl⟩ hRc hS hw hl.1 rfl rfl (Nat.le_of_ble_eq_true rfl) dL_law_1200 (fun H locs hS hw => ?_)
  refine lv_aload_n (pc := 1203) hx hb dL_law_1203 rfl (lv_at hl 3 rfl) ?_
  refine lv_aload_n (pc := 1204) hx hb dL_law_1204 rfl (lv_at hl 1 rfl) ?_
  refine lv_iload (pc := 1205) hx hb dL_law_1205 (lv_at hl 0 rfl) ?_
  refine lv_iconst (pc := 1207) hx hb dL_law_1207 zc_1 ?_
  refine lv_iadd (pc := 1208) hx hb dL_law_1208 ?_
  refine va_sld (pc := 1209) hx hb hX hbl hbA hS in1 dL_law_1209 ?_
  refine zl_M (pc := 1210) (As := [.int (xs (nI i + (1 : Int32)).toNatClampNeg)]) (rest := [.int z]) cx cv_L_174 hse (mX12_image hse.qM h2) ⟨⟨rfl, rfl⟩, Nat.le_of_ble_eq_true rfl, Nat.le_of_ble_eq_true rfl⟩ hRc hS hw hl.1 rfl rfl (Nat.le_of_ble_eq_true rfl) dL_law_1210 (fun H locs hS hw => ?_)
  refine lv_icmp_eq (pc := 1213) (tgt := 1268) hx hb dL_law_1213 (by decide) (fun _ => ?_) (fun c0 => absurd rfl c0)
  exact KC _ _ ls _ _ ⟨S', T', tx, u, f, r2, hu, hse, hw, hS⟩ hl (by omega) (by omega)
theorem dL_law_1218 : decode cL_law 1218 = .ok (.aload_n 1, 1) := by decide +kernel
theorem dL_law_1219 : decode cL_law 1219 = .ok (.aload_n 0, 1) := by decide +kernel
theorem dL_law_1220 : decode cL_law 1220 = .ok (.iload 4, 2) := by decide +kernel
theorem dL_law_1222 : decode cL_law 1222 = .ok (.iconst 1, 1) := by decide +kernel
theorem dL_law_1223 : decode cL_law 1223 = .ok (.iadd, 1) := by decide +kernel
theorem dL_law_1224 : decode cL_law 1224 = .ok (.iaload, 1) := by decide +kernel
theorem dL_law_1225 : decode cL_law 1225 = .ok (.invokevirtual 175, 3) := by decide +kernel
theorem wd_1370 : (Jvm.Cond.selects "ParlourLeaves" ({ cls := "ParlourLeaves", name := "restore", desc := "(I)Z" } : Jvm.MethodName) ({ cls := "ParlourLeaves", name := "restore", desc := "(I)Z" } : Jvm.MethodName)) ∈ zTB := List.mem_filter.mpr ⟨List.mem_append_right _ (List.mem_append_right _ (List.mem_append_right _ (List.mem_append_right _ (List.mem_append_right _ (List.mem_append_right _ (List.mem_append_left _ (List.mem_of_getElem? (i := 170) rfl))))))), rfl⟩
theorem wd_1368 : (Jvm.Cond.methodLink "ParlourLeavesLaw" (175 : Nat) ({ cls := "ParlourLeaves", name := "restore", desc := "(I)Z" } : Jvm.MethodName)) ∈ zTB := List.mem_filter.mpr ⟨List.mem_append_right _ (List.mem_append_right _ (List.mem_append_right _ (List.mem_append_right _ (List.mem_append_right _ (List.mem_append_right _ (List.mem_append_left _ (List.mem_of_getElem? (i := 168) rfl))))))), rfl⟩
theorem wd_1369 : (Jvm.Cond.instanceMethod ({ cls := "ParlourLeaves", name := "restore", desc := "(I)Z" } : Jvm.MethodName)) ∈ zTB := List.mem_filter.mpr ⟨List.mem_append_right _ (List.mem_append_right _ (List.mem_append_right _ (List.mem_append_right _ (List.mem_append_right _ (List.mem_append_right _ (List.mem_append_left _ (List.mem_of_getElem? (i := 169) rfl))))))), rfl⟩
theorem wd_1371 : (Jvm.Cond.code ({ cls := "ParlourLeaves", name := "restore", desc := "(I)Z" } : Jvm.MethodName) prog_1_method_38_code (2 : Nat) (Option.some Jvm.ClassFile.FieldType.boolean)) ∈ zTB := List.mem_filter.mpr ⟨List.mem_append_right _ (List.mem_append_right _ (List.mem_append_right _ (List.mem_append_right _ (List.mem_append_right _ (List.mem_append_right _ (List.mem_append_left _ (List.mem_of_getElem? (i := 171) rfl))))))), rfl⟩
theorem cv_L_175 : zCV RL RX11 175 yX11_restore cX11_restore 2 (some .boolean) 1 := ⟨rfl, ⟨by decide, by decide, by decide +kernel⟩, wd_1368, wd_1369, wd_1370, wd_1, wd_1371⟩
theorem dL_law_1228 : decode cL_law 1228 = .ok (.aload_n 2, 1) := by decide +kernel
theorem dL_law_1229 : decode cL_law 1229 = .ok (.aload_n 0, 1) := by decide +kernel
theorem dL_law_1230 : decode cL_law 1230 = .ok (.iload 4, 2) := by decide +kernel
theorem dL_law_1232 : decode cL_law 1232 = .ok (.iconst 1, 1) := by decide +kernel
theorem dL_law_1233 : decode cL_law 1233 = .ok (.iadd, 1) := by decide +kernel
theorem dL_law_1234 : decode cL_law 1234 = .ok (.iaload, 1) := by decide +kernel
theorem dL_law_1235 : decode cL_law 1235 = .ok (.invokevirtual 178, 3) := by decide +kernel
theorem wd_2104 : (Jvm.Cond.selects "ParlourLeavesModel" ({ cls := "ParlourLeavesModel", name := "restore", desc := "(I)Z" } : Jvm.MethodName) ({ cls := "ParlourLeavesModel", name := "restore", desc := "(I)Z" } : Jvm.MethodName)) ∈ zTB := List.mem_filter.mpr ⟨List.mem_append_right _ (List.mem_append_right _ (List.mem_append_right _ (List.mem_append_right _ (List.mem_append_right _ (List.mem_append_right _ (List.mem_append_right _ (List.mem_append_right _ (List.mem_append_right _ (List.mem_of_getElem? (i := 184) rfl))))))))), rfl⟩
theorem wd_2102 : (Jvm.Cond.methodLink "ParlourLeavesLaw" (178 : Nat) ({ cls := "ParlourLeavesModel", name := "restore", desc := "(I)Z" } : Jvm.MethodName)) ∈ zTB := List.mem_filter.mpr ⟨List.mem_append_right _ (List.mem_append_right _ (List.mem_append_right _ (List.mem_append_right _ (List.mem_append_right _ (List.mem_append_right _ (List.mem_append_right _ (List.mem_append_right _ (List.mem_append_right _ (List.mem_of_getElem? (i := 182) rfl))))))))), rfl⟩
theorem wd_2103 : (Jvm.Cond.instanceMethod ({ cls := "ParlourLeavesModel", name := "restore", desc := "(I)Z" } : Jvm.MethodName)) ∈ zTB := List.mem_filter.mpr ⟨List.mem_append_right _ (List.mem_append_right _ (List.mem_append_right _ (List.mem_append_right _ (List.mem_append_right _ (List.mem_append_right _ (List.mem_append_right _ (List.mem_append_right _ (List.mem_append_right _ (List.mem_of_getElem? (i := 183) rfl))))))))), rfl⟩
theorem wd_2105 : (Jvm.Cond.code ({ cls := "ParlourLeavesModel", name := "restore", desc := "(I)Z" } : Jvm.MethodName) prog_14_method_130_code (3 : Nat) (Option.some Jvm.ClassFile.FieldType.boolean)) ∈ zTB := List.mem_filter.mpr ⟨List.mem_append_right _ (List.mem_append_right _ (List.mem_append_right _ (List.mem_append_right _ (List.mem_append_right _ (List.mem_append_right _ (List.mem_append_right _ (List.mem_append_right _ (List.mem_append_right _ (List.mem_of_getElem? (i := 185) rfl))))))))), rfl⟩
theorem cv_L_178 : zCV RL RX12 178 yX12_restore cX12_restore 3 (some .boolean) 1 := ⟨rfl, ⟨by decide, by decide, by decide +kernel⟩, wd_2102, wd_2103, wd_2104, wd_19, wd_2105⟩
theorem dL_law_1238 : decode cL_law 1238 = .ok (.if_icmp .eq 30, 3) := by decide +kernel
set_option maxHeartbeats 1000000 in
set_option maxRecDepth 100000 in
theorem law_36 {p : Program} {l : Launch} {e : Env} {s : State} {m : MethodId} {below : List Frame} {meth : Method} {c : Code} {D : va_G} {cy : Nat → ClassId} {kK kV q qm : Nat → Nat} {o b L i cells slots : Nat} {xs : Nat → Int32} {Q : State → Prop} (cx : zX RL cL_law 7 p s m #[Value.ref b] c D cy) (hE : zEn kK kV (zAL s) s) (hX : va_X b L xs s s.heap) (hbl : b < s.heap.size) (hL : L ≤ 3072) (hi : i + 6 ≤ L) (hcl : cells + 2 ≤ 601024) (hsl : slots + 68 ≤ 7293034) (hl0 : l.stackTraces = false)
    (KC : ∀ (H : Heap) (locs : List Loc) (ls : Array Slot) (c1 s1 : Nat), zIv D cy s q qm o H locs → lv_has ls 7 [(4, .int (nI i)), (0, .ref b), (1, .ref (q 0)), (2, .ref (qm 0)), (3, .ref o)] → c1 ≤ cells + 2 → s1 ≤ slots + 68 → W p l e room_1 s m #[Value.ref b] below meth c H locs c1 s1 Q (F0 m 1268 ls []))
    {H : Heap} {locs : List Loc} {ls : Array Slot} (hv : zIv D cy s q qm o H locs) (hl : lv_has ls 7 [(4, .int (nI i)), (0, .ref b), (1, .ref (q 0)), (2, .ref (qm 0)), (3, .ref o)]) : W p l e room_1 s m #[Value.ref b] below meth c H locs cells slots Q (F0 m 1218 ls []) := by
  have hx := cx.1
  have hb := cx.2.1
  have hbA : ¬ zAL s b := Nat.not_le.mpr hbl
  have hRc : zRc cells slots room_1 := ⟨by show cells + 0 ≤ 601024; omega, by show slots + 0 ≤ 7293034; omega⟩
  have in1 : vp_in (nI i + (1 : Int32)) L := zl_in (j := 1) hi hL (by decide)
  obtain ⟨S, T, tx, u, f, r, hu, hse, hw, hS⟩ := hv
  obtain ⟨z, S', T', h1, h2, r2⟩ := ov_restore r (xs (nI i + (1 : Int32)).toNatClampNeg)
  refine lv_aload_n (pc := 1218) hx hb dL_law_1218 rfl (lv_at hl 2 rfl) ?_
  refine lv_aload_n (pc := 1219) hx hb dL_law_1219 rfl (lv_at hl 1 rfl) ?_
  refine lv_iload (pc := 1220) hx hb dL_law_1220 (lv_at hl 0 rfl) ?_
  refine lv_iconst (pc := 1222) hx hb dL_law_1222 zc_1 ?_
  refine lv_iadd (pc := 1223) hx hb dL_law_1223 ?_
  refine va_sld (pc := 1224) hx hb hX hbl hbA hS in1 dL_law_1224 ?_
  refine zl_C (pc := 1225) (As := [.int (xs (nI i + (1 : Int32)).toNatClampNeg)]) (rest := []) cx cv_L_175 hse (mX11_restore hse.qC h1) ⟨⟨rfl, rfl⟩, Nat.le_of_ble_eq_true rfl, Nat.le_of_ble_eq_true rfl⟩ hRc hS hw hl.1 rfl rfl (Nat.le_of_ble_eq_true rfl) dL_law_1225 (fun H locs hS hw => ?_)
  refine lv_aload_n (pc := 1228) hx hb dL_law_1228 rfl (lv_at hl 3 rfl) ?_
  refine lv_aload_n (pc := 1229) hx hb dL_law_1229 rfl (lv_at hl 1 rfl) ?_
  refine lv_iload (pc := 1230) hx hb dL_law_1230 (lv_at hl 0 rfl) ?_
  refine lv_iconst (pc := 1232) hx hb dL_law_1232 zc_1 ?_
  refine lv_iadd (pc := 1233) hx hb dL_law_1233 ?_
  refine va_sld (pc := 1234) hx hb hX hbl hbA hS in1 dL_law_1234 ?_
  refine zl_M (pc := 1235) (As := [.int (xs (nI i + (1 : Int32)).toNatClampNeg)]) (rest := [.int z]) cx cv_L_178 hse (mX12_restore hse.qM h2) ⟨⟨rfl, rfl⟩, Nat.le_of_ble_eq_true rfl, Nat.le_of_ble_eq_true rfl⟩ hRc hS hw hl.1 rfl rfl (Nat.le_of_ble_eq_true rfl) dL_law_1235 (fun H locs hS hw => ?_)
  refine lv_icmp_eq (pc := 1238) (tgt := 1268) hx hb dL_law_1238 (by decide) (fun _ => ?_) (fun c0 => absurd rfl c0)
  exact KC _ _ ls _ _ ⟨S', T', tx, u, f, r2, hu, hse, hw, hS⟩ hl (by omega) (by omega)
theorem dL_law_1243 : decode cL_law 1243 = .ok (.aload_n 1, 1) := by decide +kernel
theorem dL_law_1244 : decode cL_law 1244 = .ok (.aload_n 0, 1) := by decide +kernel
theorem dL_law_1245 : decode cL_law 1245 = .ok (.iload 4, 2) := by decide +kernel
theorem dL_law_1247 : decode cL_law 1247 = .ok (.iconst 1, 1) := by decide +kernel
theorem dL_law_1248 : decode cL_law 1248 = .ok (.iadd, 1) := by decide +kernel
theorem dL_law_1249 : decode cL_law 1249 = .ok (.iaload, 1) := by decide +kernel
theorem dL_law_1250 : decode cL_law 1250 = .ok (.invokevirtual 179, 3) := by decide +kernel
theorem wd_1374 : (Jvm.Cond.selects "ParlourLeaves" ({ cls := "ParlourLeaves", name := "count", desc := "(I)I" } : Jvm.MethodName) ({ cls := "ParlourLeaves", name := "count", desc := "(I)I" } : Jvm.MethodName)) ∈ zTB := List.mem_filter.mpr ⟨List.mem_append_right _ (List.mem_append_right _ (List.mem_append_right _ (List.mem_append_right _ (List.mem_append_right _ (List.mem_append_right _ (List.mem_append_left _ (List.mem_of_getElem? (i := 174) rfl))))))), rfl⟩
theorem wd_1372 : (Jvm.Cond.methodLink "ParlourLeavesLaw" (179 : Nat) ({ cls := "ParlourLeaves", name := "count", desc := "(I)I" } : Jvm.MethodName)) ∈ zTB := List.mem_filter.mpr ⟨List.mem_append_right _ (List.mem_append_right _ (List.mem_append_right _ (List.mem_append_right _ (List.mem_append_right _ (List.mem_append_right _ (List.mem_append_left _ (List.mem_of_getElem? (i := 172) rfl))))))), rfl⟩
theorem wd_1373 : (Jvm.Cond.instanceMethod ({ cls := "ParlourLeaves", name := "count", desc := "(I)I" } : Jvm.MethodName)) ∈ zTB := List.mem_filter.mpr ⟨List.mem_append_right _ (List.mem_append_right _ (List.mem_append_right _ (List.mem_append_right _ (List.mem_append_right _ (List.mem_append_right _ (List.mem_append_left _ (List.mem_of_getElem? (i := 173) rfl))))))), rfl⟩
theorem wd_1375 : (Jvm.Cond.code ({ cls := "ParlourLeaves", name := "count", desc := "(I)I" } : Jvm.MethodName) prog_1_method_39_code (2 : Nat) (Option.some Jvm.ClassFile.FieldType.int)) ∈ zTB := List.mem_filter.mpr ⟨List.mem_append_right _ (List.mem_append_right _ (List.mem_append_right _ (List.mem_append_right _ (List.mem_append_right _ (List.mem_append_right _ (List.mem_append_left _ (List.mem_of_getElem? (i := 175) rfl))))))), rfl⟩
theorem cv_L_179 : zCV RL RX11 179 yX11_count cX11_count 2 (some .int) 1 := ⟨rfl, ⟨by decide, by decide, by decide +kernel⟩, wd_1372, wd_1373, wd_1374, wd_1, wd_1375⟩
theorem dL_law_1253 : decode cL_law 1253 = .ok (.aload_n 2, 1) := by decide +kernel
theorem dL_law_1254 : decode cL_law 1254 = .ok (.aload_n 0, 1) := by decide +kernel
theorem dL_law_1255 : decode cL_law 1255 = .ok (.iload 4, 2) := by decide +kernel
theorem dL_law_1257 : decode cL_law 1257 = .ok (.iconst 1, 1) := by decide +kernel
theorem dL_law_1258 : decode cL_law 1258 = .ok (.iadd, 1) := by decide +kernel
theorem dL_law_1259 : decode cL_law 1259 = .ok (.iaload, 1) := by decide +kernel
theorem dL_law_1260 : decode cL_law 1260 = .ok (.invokevirtual 182, 3) := by decide +kernel
theorem wd_2108 : (Jvm.Cond.selects "ParlourLeavesModel" ({ cls := "ParlourLeavesModel", name := "count", desc := "(I)I" } : Jvm.MethodName) ({ cls := "ParlourLeavesModel", name := "count", desc := "(I)I" } : Jvm.MethodName)) ∈ zTB := List.mem_filter.mpr ⟨List.mem_append_right _ (List.mem_append_right _ (List.mem_append_right _ (List.mem_append_right _ (List.mem_append_right _ (List.mem_append_right _ (List.mem_append_right _ (List.mem_append_right _ (List.mem_append_right _ (List.mem_of_getElem? (i := 188) rfl))))))))), rfl⟩
theorem wd_2106 : (Jvm.Cond.methodLink "ParlourLeavesLaw" (182 : Nat) ({ cls := "ParlourLeavesModel", name := "count", desc := "(I)I" } : Jvm.MethodName)) ∈ zTB := List.mem_filter.mpr ⟨List.mem_append_right _ (List.mem_append_right _ (List.mem_append_right _ (List.mem_append_right _ (List.mem_append_right _ (List.mem_append_right _ (List.mem_append_right _ (List.mem_append_right _ (List.mem_append_right _ (List.mem_of_getElem? (i := 186) rfl))))))))), rfl⟩
theorem wd_2107 : (Jvm.Cond.instanceMethod ({ cls := "ParlourLeavesModel", name := "count", desc := "(I)I" } : Jvm.MethodName)) ∈ zTB := List.mem_filter.mpr ⟨List.mem_append_right _ (List.mem_append_right _ (List.mem_append_right _ (List.mem_append_right _ (List.mem_append_right _ (List.mem_append_right _ (List.mem_append_right _ (List.mem_append_right _ (List.mem_append_right _ (List.mem_of_getElem? (i := 187) rfl))))))))), rfl⟩
theorem wd_2109 : (Jvm.Cond.code ({ cls := "ParlourLeavesModel", name := "count", desc := "(I)I" } : Jvm.MethodName) prog_14_method_131_code (2 : Nat) (Option.some Jvm.ClassFile.FieldType.int)) ∈ zTB := List.mem_filter.mpr ⟨List.mem_append_right _ (List.mem_append_right _ (List.mem_append_right _ (List.mem_append_right _ (List.mem_append_right _ (List.mem_append_right _ (List.mem_append_right _ (List.mem_append_right _ (List.mem_append_right _ (List.mem_of_getElem? (i := 189) rfl))))))))), rfl⟩
theorem cv_L_182 : zCV RL RX12 182 yX12_count cX12_count 2 (some .int) 1 := ⟨rfl, ⟨by decide, by decide, by decide +kernel⟩, wd_2106, wd_2107, wd_2108, wd_19, wd_2109⟩
theorem dL_law_1263 : decode cL_law 1263 = .ok (.if_icmp .eq 5, 3) := by decide +kernel
set_option maxHeartbeats 1000000 in
set_option maxRecDepth 100000 in
theorem law_37 {p : Program} {l : Launch} {e : Env} {s : State} {m : MethodId} {below : List Frame} {meth : Method} {c : Code} {D : va_G} {cy : Nat → ClassId} {kK kV q qm : Nat → Nat} {o b L i cells slots : Nat} {xs : Nat → Int32} {Q : State → Prop} (cx : zX RL cL_law 7 p s m #[Value.ref b] c D cy) (hE : zEn kK kV (zAL s) s) (hX : va_X b L xs s s.heap) (hbl : b < s.heap.size) (hL : L ≤ 3072) (hi : i + 6 ≤ L) (hcl : cells + 2 ≤ 601024) (hsl : slots + 68 ≤ 7293034) (hl0 : l.stackTraces = false)
    (KC : ∀ (H : Heap) (locs : List Loc) (ls : Array Slot) (c1 s1 : Nat), zIv D cy s q qm o H locs → lv_has ls 7 [(4, .int (nI i)), (0, .ref b), (1, .ref (q 0)), (2, .ref (qm 0)), (3, .ref o)] → c1 ≤ cells + 2 → s1 ≤ slots + 68 → W p l e room_1 s m #[Value.ref b] below meth c H locs c1 s1 Q (F0 m 1268 ls []))
    {H : Heap} {locs : List Loc} {ls : Array Slot} (hv : zIv D cy s q qm o H locs) (hl : lv_has ls 7 [(4, .int (nI i)), (0, .ref b), (1, .ref (q 0)), (2, .ref (qm 0)), (3, .ref o)]) : W p l e room_1 s m #[Value.ref b] below meth c H locs cells slots Q (F0 m 1243 ls []) := by
  have hx := cx.1
  have hb := cx.2.1
  have hbA : ¬ zAL s b := Nat.not_le.mpr hbl
  have hRc : zRc cells slots room_1 := ⟨by show cells + 0 ≤ 601024; omega, by show slots + 0 ≤ 7293034; omega⟩
  have in1 : vp_in (nI i + (1 : Int32)) L := zl_in (j := 1) hi hL (by decide)
  obtain ⟨S, T, tx, u, f, r, hu, hse, hw, hS⟩ := hv
  obtain ⟨z, T', h1, h2, r2⟩ := ov_count r (xs (nI i + (1 : Int32)).toNatClampNeg)
  refine lv_aload_n (pc := 1243) hx hb dL_law_1243 rfl (lv_at hl 2 rfl) ?_
  refine lv_aload_n (pc := 1244) hx hb dL_law_1244 rfl (lv_at hl 1 rfl) ?_
  refine lv_iload (pc := 1245) hx hb dL_law_1245 (lv_at hl 0 rfl) ?_
  refine lv_iconst (pc := 1247) hx hb dL_law_1247 zc_1 ?_
  refine lv_iadd (pc := 1248) hx hb dL_law_1248 ?_
  refine va_sld (pc := 1249) hx hb hX hbl hbA hS in1 dL_law_1249 ?_
  refine zr_VI (pc := 1250) (As := [.int (xs (nI i + (1 : Int32)).toNatClampNeg)]) (rest := []) cx cv_L_179 (mX11_count h1) ⟨⟨rfl, rfl⟩, Nat.le_of_ble_eq_true rfl, Nat.le_of_ble_eq_true rfl⟩ hRc hw.1 nC_0 sC_0 rfl hl.1 rfl rfl (Nat.le_of_ble_eq_true rfl) dL_law_1250 ?_
  refine lv_aload_n (pc := 1253) hx hb dL_law_1253 rfl (lv_at hl 3 rfl) ?_
  refine lv_aload_n (pc := 1254) hx hb dL_law_1254 rfl (lv_at hl 1 rfl) ?_
  refine lv_iload (pc := 1255) hx hb dL_law_1255 (lv_at hl 0 rfl) ?_
  refine lv_iconst (pc := 1257) hx hb dL_law_1257 zc_1 ?_
  refine lv_iadd (pc := 1258) hx hb dL_law_1258 ?_
  refine va_sld (pc := 1259) hx hb hX hbl hbA hS in1 dL_law_1259 ?_
  refine zl_M (pc := 1260) (As := [.int (xs (nI i + (1 : Int32)).toNatClampNeg)]) (rest := [.int z]) cx cv_L_182 hse (mX12_count hse.qM h2) ⟨⟨rfl, rfl⟩, Nat.le_of_ble_eq_true rfl, Nat.le_of_ble_eq_true rfl⟩ hRc hS hw hl.1 rfl rfl (Nat.le_of_ble_eq_true rfl) dL_law_1260 (fun H locs hS hw => ?_)
  refine lv_icmp_eq (pc := 1263) (tgt := 1268) hx hb dL_law_1263 (by decide) (fun _ => ?_) (fun c0 => absurd rfl c0)
  exact KC _ _ ls _ _ ⟨S, T', tx, u, f, r2, hu, hse, hw, hS⟩ hl (by omega) (by omega)
