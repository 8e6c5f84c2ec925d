set_option maxHeartbeats 8000000 in
set_option maxRecDepth 100000 in
theorem LC_0 {p : Program} {l : Launch} (hfl : l.stackTraces = false) {e : Env} {R : Room} {s : State} {m : MethodId} {args : Array Value} {below : List Frame} {meth : Method} {c : Code} {H : Heap} {locs : List Loc} {cells slots : Nat} {Q : State → Prop} {γ : GT} {ad : Nat → Nat → Nat} {σ : St} {b L : Nat} {xs : Nat → Int32} {ls : Array Slot} (hX : CX γ p s m args c cL_law 7 RL) (hsc : SC γ s b L xs) (hRf : 100 ≤ R.frames ∧ 8000 ≤ R.locals) {fu I : Nat} (hI : I + 8 ≤ L) (hR : RS γ ad σ s H locs) (hl : lh ls 7 (lv7 γ b (nI I))) (hf : cells + 37 ≤ R.cells ∧ slots + 6282 ≤ R.slots) {r : Except Nat Int32} {σ1 : St} (hw7 : f7_plug fu (xs (I + 1)) (xs (I + 2)) (xs (I + 3)) (xs (I + 4)) (!(xs (I + 5) == 0)) (xs (I + 6)) (xs (I + 7)) σ = some (r, σ1)) (he : ∀ e, r = .error e → e = 1 ∨ e = 2 ∨ e = 3) {r2 : Int32} {σ2 : St} (hw8 : f8_plug fu (xs (I + 1)) (xs (I + 2)) (xs (I + 3)) (xs (I + 4)) (!(xs (I + 5) == 0)) (xs (I + 6)) (xs (I + 7)) (hoi σ1 r) = some (r2, σ2)) (hth : f8_thrown fu σ2 = some (hk (fun e => if e = 1 then 1 else if e = 2 then 2 else if e = 3 then 3 else 0) r)) (hv : hk (fun e => if e = 1 then 1 else if e = 2 then 2 else if e = 3 then 3 else 0) r = 0 → go σ2 = r2.toInt64)
    (kk : ∀ (ad : Nat → Nat → Nat) (ls : Array Slot) (H : Heap) (locs : List Loc), lh ls 7 (lv7 γ b (nI I)) → RS γ ad σ2 s H locs → W p l e R s m args below meth c H locs (cells + 37) (slots + 6282) Q (F0 m 2230 ls [])) : W p l e R s m args below meth c H locs cells slots Q (F0 m 192 ls []) := by
  refine rw_aload_n hX hl 1 rfl (Or.inr ⟨_, rfl⟩) dL_law_192 rfl ?_
  refine rw_aload_n hX hl 0 rfl (Or.inr ⟨_, rfl⟩) dL_law_193 rfl ?_
  refine rw_iload hX hl 4 rfl dL_law_194 ?_
  refine lv_iconst (v := 1) hX.1.1 hX.1.2.1 dL_law_196 rfl ?_
  refine lv_iadd hX.1.1 hX.1.2.1 dL_law_197 ?_
  refine rw_scr hX hR.2 hsc (k := I + 1) (nI_plus I 1) (by omega) dL_law_198 ?_
  refine rw_aload_n hX hl 0 rfl (Or.inr ⟨_, rfl⟩) dL_law_199 rfl ?_
  refine rw_iload hX hl 4 rfl dL_law_200 ?_
  refine lv_iconst (v := 2) hX.1.1 hX.1.2.1 dL_law_202 rfl ?_
  refine lv_iadd hX.1.1 hX.1.2.1 dL_law_203 ?_
  refine rw_scr hX hR.2 hsc (k := I + 2) (nI_plus I 2) (by omega) dL_law_204 ?_
  refine rw_aload_n hX hl 0 rfl (Or.inr ⟨_, rfl⟩) dL_law_205 rfl ?_
  refine rw_iload hX hl 4 rfl dL_law_206 ?_
  refine lv_iconst (v := 3) hX.1.1 hX.1.2.1 dL_law_208 rfl ?_
  refine lv_iadd hX.1.1 hX.1.2.1 dL_law_209 ?_
  refine rw_scr hX hR.2 hsc (k := I + 3) (nI_plus I 3) (by omega) dL_law_210 ?_
  refine rw_aload_n hX hl 0 rfl (Or.inr ⟨_, rfl⟩) dL_law_211 rfl ?_
  refine rw_iload hX hl 4 rfl dL_law_212 ?_
  refine lv_iconst (v := 4) hX.1.1 hX.1.2.1 dL_law_214 rfl ?_
  refine lv_iadd hX.1.1 hX.1.2.1 dL_law_215 ?_
  refine rw_scr hX hR.2 hsc (k := I + 4) (nI_plus I 4) (by omega) dL_law_216 ?_
  refine rw_aload_n hX hl 0 rfl (Or.inr ⟨_, rfl⟩) dL_law_217 rfl ?_
  refine rw_iload hX hl 4 rfl dL_law_218 ?_
  refine lv_iconst (v := 5) hX.1.1 hX.1.2.1 dL_law_220 rfl ?_
  refine lv_iadd hX.1.1 hX.1.2.1 dL_law_221 ?_
  refine rw_scr hX hR.2 hsc (k := I + 5) (nI_plus I 5) (by omega) dL_law_222 ?_
  refine rw_nz (A := 230) (B := 231) hX dL_law_223 (by decide) dL_law_226 dL_law_227 (by decide) dL_law_230 rfl ?_
  refine rw_aload_n hX hl 0 rfl (Or.inr ⟨_, rfl⟩) dL_law_231 rfl ?_
  refine rw_iload hX hl 4 rfl dL_law_232 ?_
  refine lv_bipush (v := 6) hX.1.1 hX.1.2.1 dL_law_234 rfl ?_
  refine lv_iadd hX.1.1 hX.1.2.1 dL_law_236 ?_
  refine rw_scr hX hR.2 hsc (k := I + 6) (nI_plus I 6) (by omega) dL_law_237 ?_
  refine rw_aload_n hX hl 0 rfl (Or.inr ⟨_, rfl⟩) dL_law_238 rfl ?_
  refine rw_iload hX hl 4 rfl dL_law_239 ?_
  refine lv_bipush (v := 7) hX.1.1 hX.1.2.1 dL_law_241 rfl ?_
  refine lv_iadd hX.1.1 hX.1.2.1 dL_law_243 ?_
  refine rw_scr hX hR.2 hsc (k := I + 7) (nI_plus I 7) (by omega) dL_law_244 ?_
  refine rw_aload_n hX hl 3 rfl (Or.inr ⟨_, rfl⟩) dL_law_245 rfl ?_
  refine rw_cSW hX hR (y := yL_plug) (bytes := cL_plug) (maxL := 10) (hh := [(0, 20, 23, 13), (0, 20, 27, 15), (0, 20, 31, 17)]) (n := 9) ⟨gw_0, gw_193, by decide, gw_192⟩ (rm := rmo 85 37 6282) (mc := 37) (ms := 6282) ⟨rfl, rfl, (show 85 + 1 ≤ R.frames by omega), (show 8 + (10 + 11) + 64 * 85 ≤ R.locals by omega)⟩ (As := [.ref (gS γ 7 0), .int (xs (I + 1)), .int (xs (I + 2)), .int (xs (I + 3)), .int (xs (I + 4)), .int (b2i (!(xs (I + 5) == 0))), .int (xs (I + 6)), .int (xs (I + 7)), .ref (gS γ 3000 0)]) (rest := []) rfl (L_plug l hfl γ ad (xs (I + 1)) (xs (I + 2)) (xs (I + 3)) (xs (I + 4)) (!(xs (I + 5) == 0)) (xs (I + 6)) (xs (I + 7)) σ r σ1 hw7 he) gw_191 rfl hl.1 ca0 (Nat.le_of_ble_eq_true rfl) dL_law_246 hf (fun ad H1 locs1 hR => ?_)
  refine rw_istore (i := 5) (lv' := [(5, .int (hk (fun e => if e = 1 then 1 else if e = 2 then 2 else if e = 3 then 3 else 0) r)), (0, .ref b), (1, .ref (gS γ 7 0)), (2, .ref (gS γ 8 0)), (3, .ref (gS γ 3000 0)), (4, .int (nI I))]) hX hl (Nat.le_of_ble_eq_true rfl) rfl dL_law_249 (fun ls hl => ?_)
  refine rw_aload_n hX hl 3 rfl (Or.inr ⟨_, rfl⟩) dL_law_251 rfl ?_
  refine rw_aload_n hX hl 1 rfl (Or.inr ⟨_, rfl⟩) dL_law_252 rfl ?_
  refine rw_iload hX hl 5 rfl dL_law_253 ?_
  refine lv_iconst (v := 1) hX.1.1 hX.1.2.1 dL_law_255 rfl ?_
  refine lv_iadd hX.1.1 hX.1.2.1 dL_law_256 ?_
  refine rw_scr hX hR.2 hsc (k := I + 1) (nI_plus I 1) (by omega) dL_law_257 ?_
  refine rw_aload_n hX hl 1 rfl (Or.inr ⟨_, rfl⟩) dL_law_258 rfl ?_
  refine rw_iload hX hl 5 rfl dL_law_259 ?_
  refine lv_iconst (v := 2) hX.1.1 hX.1.2.1 dL_law_261 rfl ?_
  refine lv_iadd hX.1.1 hX.1.2.1 dL_law_262 ?_
  refine rw_scr hX hR.2 hsc (k := I + 2) (nI_plus I 2) (by omega) dL_law_263 ?_
  refine rw_aload_n hX hl 1 rfl (Or.inr ⟨_, rfl⟩) dL_law_264 rfl ?_
  refine rw_iload hX hl 5 rfl dL_law_265 ?_
  refine lv_iconst (v := 3) hX.1.1 hX.1.2.1 dL_law_267 rfl ?_
  refine lv_iadd hX.1.1 hX.1.2.1 dL_law_268 ?_
  refine rw_scr hX hR.2 hsc (k := I + 3) (nI_plus I 3) (by omega) dL_law_269 ?_
  refine rw_aload_n hX hl 1 rfl (Or.inr ⟨_, rfl⟩) dL_law_270 rfl ?_
  refine rw_iload hX hl 5 rfl dL_law_271 ?_
  refine lv_iconst (v := 4) hX.1.1 hX.1.2.1 dL_law_273 rfl ?_
  refine lv_iadd hX.1.1 hX.1.2.1 dL_law_274 ?_
  refine rw_scr hX hR.2 hsc (k := I + 4) (nI_plus I 4) (by omega) dL_law_275 ?_
  refine rw_aload_n hX hl 1 rfl (Or.inr ⟨_, rfl⟩) dL_law_276 rfl ?_
  refine rw_iload hX hl 5 rfl dL_law_277 ?_
  refine lv_iconst (v := 5) hX.1.1 hX.1.2.1 dL_law_279 rfl ?_
  refine lv_iadd hX.1.1 hX.1.2.1 dL_law_280 ?_
  refine rw_scr hX hR.2 hsc (k := I + 5) (nI_plus I 5) (by omega) dL_law_281 ?_
  refine rw_nz (A := 289) (B := 290) hX dL_law_282 (by decide) dL_law_285 dL_law_286 (by decide) dL_law_289 rfl ?_
  refine rw_aload_n hX hl 1 rfl (Or.inr ⟨_, rfl⟩) dL_law_290 rfl ?_
  refine rw_iload hX hl 5 rfl dL_law_291 ?_
  refine lv_bipush (v := 6) hX.1.1 hX.1.2.1 dL_law_293 rfl ?_
  refine lv_iadd hX.1.1 hX.1.2.1 dL_law_295 ?_
  refine rw_scr hX hR.2 hsc (k := I + 6) (nI_plus I 6) (by omega) dL_law_296 ?_
  refine rw_aload_n hX hl 1 rfl (Or.inr ⟨_, rfl⟩) dL_law_297 rfl ?_
  refine rw_iload hX hl 5 rfl dL_law_298 ?_
  refine lv_bipush (v := 7) hX.1.1 hX.1.2.1 dL_law_300 rfl ?_
  refine lv_iadd hX.1.1 hX.1.2.1 dL_law_302 ?_
  refine rw_scr hX hR.2 hsc (k := I + 7) (nI_plus I 7) (by omega) dL_law_303 ?_
  refine rw_cVi hX hR pk_f8_plug (mc := 0) (ms := 0) ⟨rfl, rfl, (show 6 + 1 ≤ R.frames by omega), (show 8 + (10 + 11) + 64 * 6 ≤ R.locals by omega)⟩ (As := [.int (xs (I + 1)), .int (xs (I + 2)), .int (xs (I + 3)), .int (xs (I + 4)), .int (b2i (!(xs (I + 5) == 0))), .int (xs (I + 6)), .int (xs (I + 7))]) (rest := []) rfl (C_f8_plug l γ ad (xs (I + 1)) (xs (I + 2)) (xs (I + 3)) (xs (I + 4)) (!(xs (I + 5) == 0)) (xs (I + 6)) (xs (I + 7)) (hoi σ1 r) r2 σ2 hw8) gw_1078 gw_1079 gw_1080 (rs_recv hX hR 8 0 (C := RX7) (T := TX7) (N := 48) rfl (by decide) (Nat.le_of_ble_eq_true rfl) rfl) rfl hl.1 ca0 (Nat.le_of_ble_eq_true rfl) dL_law_304 ⟨by omega, by omega⟩ (fun H1 locs1 hR => ?_)
  refine rw_istore (i := 6) (lv' := [(6, .int r2), (5, .int (hk (fun e => if e = 1 then 1 else if e = 2 then 2 else if e = 3 then 3 else 0) r)), (0, .ref b), (1, .ref (gS γ 7 0)), (2, .ref (gS γ 8 0)), (3, .ref (gS γ 3000 0)), (4, .int (nI I))]) hX hl (Nat.le_of_ble_eq_true rfl) rfl dL_law_307 (fun ls hl => ?_)
  refine rw_aload_n hX hl 4 rfl (Or.inr ⟨_, rfl⟩) dL_law_309 rfl ?_
  refine rw_cVi hX hR pk_f8_thrown (mc := 0) (ms := 0) ⟨rfl, rfl, (show 1 + 1 ≤ R.frames by omega), (show 8 + (1 + 11) + 64 * 1 ≤ R.locals by omega)⟩ (As := []) (rest := []) rfl (C_f8_thrown l γ ad σ2 _ hth) gw_1074 gw_1075 gw_1076 (rs_recv hX hR 8 0 (C := RX7) (T := TX7) (N := 48) rfl (by decide) (Nat.le_of_ble_eq_true rfl) rfl) rfl hl.1 ca0 (Nat.le_of_ble_eq_true rfl) dL_law_310 ⟨by omega, by omega⟩ (fun H1 locs1 hR => ?_)
  refine rw_iload hX hl 1 rfl dL_law_313 ?_
  refine lv_icmp_eq (x := hk (fun e => if e = 1 then 1 else if e = 2 then 2 else if e = 3 then 3 else 0) r) (y := hk (fun e => if e = 1 then 1 else if e = 2 then 2 else if e = 3 then 3 else 0) r) (tgt := 320) hX.1.1 hX.1.2.1 dL_law_315 (by decide) (fun c0 => ?_) (fun c0 => absurd rfl c0)
  refine rw_iload hX hl 1 rfl dL_law_320 ?_
  replace hl := lh_sub hl [2, 3, 4, 5, 6, 1, 0] rfl
  refine lv_if_ne (x := hk (fun e => if e = 1 then 1 else if e = 2 then 2 else if e = 3 then 3 else 0) r) (tgt := 337) hX.1.1 hX.1.2.1 dL_law_322 (by decide) (fun c0 => ?_) (fun c0 => ?_)
  · refine lv_goto (tgt := 2230) hX.1.1 hX.1.2.1 dL_law_337 (by decide) ?_
    exact kk ad ls _ _ (lh_sub hl [0, 1, 2, 3, 4] rfl) hR
  have hv1 := hv c0
  refine rw_aload_n hX hl 3 rfl (Or.inr ⟨_, rfl⟩) dL_law_325 rfl ?_
  refine lv_iconst (v := 0) hX.1.1 hX.1.2.1 dL_law_326 rfl ?_
  refine rw_outld hX hR dL_law_327 ?_
  rw [hv1]
  refine rw_iload hX hl 6 rfl dL_law_328 ?_
  refine lv_i2l hX.1.1 hX.1.2.1 dL_law_330 rfl ?_
  refine W.lcmp hX.1.1 hX.1.2.1 dL_law_331 ?_
  rw [lg_self]
  refine lv_if_eq (x := 0) (tgt := 337) hX.1.1 hX.1.2.1 dL_law_332 (by decide) (fun c2 => ?_) (fun c2 => absurd rfl c2)
  refine lv_goto (tgt := 2230) hX.1.1 hX.1.2.1 dL_law_337 (by decide) ?_
  exact kk ad ls _ _ (lh_sub hl [0, 1, 2, 3, 4] rfl) hR
set_option maxHeartbeats 8000000 in
set_option maxRecDepth 100000 in
theorem LC_1 {p : Program} {l : Launch} (hfl : l.stackTraces = false) {e : Env} {R : Room} {s : State} {m : MethodId} {args : Array Value} {below : List Frame} {meth : Method} {c : Code} {H : Heap} {locs : List Loc} {cells slots : Nat} {Q : State → Prop} {γ : GT} {ad : Nat → Nat → Nat} {σ : St} {b L : Nat} {xs : Nat → Int32} {ls : Array Slot} (hX : CX γ p s m args c cL_law 7 RL) (hsc : SC γ s b L xs) (hRf : 100 ≤ R.frames ∧ 8000 ≤ R.locals) {fu I : Nat} (hI : I + 8 ≤ L) (hR : RS γ ad σ s H locs) (hl : lh ls 7 (lv7 γ b (nI I))) (hf : cells + 28 ≤ R.cells ∧ slots + 5992 ≤ R.slots) {r : Except Nat Int32} {σ1 : St} (hw7 : f7_unplug fu (xs (I + 1)) σ = some (r, σ1)) (he : ∀ e, r = .error e → e = 1 ∨ e = 3) {r2 : Int32} {σ2 : St} (hw8 : f8_unplug fu (xs (I + 1)) (hoi σ1 r) = some (r2, σ2)) (hth : f8_thrown fu σ2 = some (hk (fun e => if e = 1 then 1 else if e = 3 then 2 else 0) r)) (hv : hk (fun e => if e = 1 then 1 else if e = 3 then 2 else 0) r = 0 → go σ2 = r2.toInt64)
    (kk : ∀ (ad : Nat → Nat → Nat) (ls : Array Slot) (H : Heap) (locs : List Loc), lh ls 7 (lv7 γ b (nI I)) → RS γ ad σ2 s H locs → W p l e R s m args below meth c H locs (cells + 28) (slots + 5992) Q (F0 m 2230 ls [])) : W p l e R s m args below meth c H locs cells slots Q (F0 m 340 ls []) := by
  refine rw_aload_n hX hl 1 rfl (Or.inr ⟨_, rfl⟩) dL_law_340 rfl ?_
  refine rw_aload_n hX hl 0 rfl (Or.inr ⟨_, rfl⟩) dL_law_341 rfl ?_
  refine rw_iload hX hl 4 rfl dL_law_342 ?_
  refine lv_iconst (v := 1) hX.1.1 hX.1.2.1 dL_law_344 rfl ?_
  refine lv_iadd hX.1.1 hX.1.2.1 dL_law_345 ?_
  refine rw_scr hX hR.2 hsc (k := I + 1) (nI_plus I 1) (by omega) dL_law_346 ?_
  refine rw_aload_n hX hl 3 rfl (Or.inr ⟨_, rfl⟩) dL_law_347 rfl ?_
  refine rw_cSW hX hR (y := yL_unplug) (bytes := cL_unplug) (maxL := 4) (hh := [(0, 9, 12, 13), (0, 9, 15, 17)]) (n := 3) ⟨gw_0, gw_478, by decide, gw_477⟩ (rm := rmo 85 28 5992) (mc := 28) (ms := 5992) ⟨rfl, rfl, (show 85 + 1 ≤ R.frames by omega), (show 8 + (4 + 11) + 64 * 85 ≤ R.locals by omega)⟩ (As := [.ref (gS γ 7 0), .int (xs (I + 1)), .ref (gS γ 3000 0)]) (rest := []) rfl (L_unplug l hfl γ ad (xs (I + 1)) σ r σ1 hw7 he) gw_476 rfl hl.1 ca0 (Nat.le_of_ble_eq_true rfl) dL_law_348 hf (fun ad H1 locs1 hR => ?_)
  refine rw_istore (i := 5) (lv' := [(5, .int (hk (fun e => if e = 1 then 1 else if e = 3 then 2 else 0) r)), (0, .ref b), (1, .ref (gS γ 7 0)), (2, .ref (gS γ 8 0)), (3, .ref (gS γ 3000 0)), (4, .int (nI I))]) hX hl (Nat.le_of_ble_eq_true rfl) rfl dL_law_351 (fun ls hl => ?_)
  refine rw_aload_n hX hl 3 rfl (Or.inr ⟨_, rfl⟩) dL_law_353 rfl ?_
  refine rw_aload_n hX hl 1 rfl (Or.inr ⟨_, rfl⟩) dL_law_354 rfl ?_
  refine rw_iload hX hl 5 rfl dL_law_355 ?_
  refine lv_iconst (v := 1) hX.1.1 hX.1.2.1 dL_law_357 rfl ?_
  refine lv_iadd hX.1.1 hX.1.2.1 dL_law_358 ?_
  refine rw_scr hX hR.2 hsc (k := I + 1) (nI_plus I 1) (by omega) dL_law_359 ?_
  refine rw_cVi hX hR pk_f8_unplug (mc := 0) (ms := 0) ⟨rfl, rfl, (show 6 + 1 ≤ R.frames by omega), (show 8 + (5 + 11) + 64 * 6 ≤ R.locals by omega)⟩ (As := [.int (xs (I + 1))]) (rest := []) rfl (C_f8_unplug l γ ad (xs (I + 1)) (hoi σ1 r) r2 σ2 hw8) gw_1141 gw_1142 gw_1143 (rs_recv hX hR 8 0 (C := RX7) (T := TX7) (N := 48) rfl (by decide) (Nat.le_of_ble_eq_true rfl) rfl) rfl hl.1 ca0 (Nat.le_of_ble_eq_true rfl) dL_law_360 ⟨by omega, by omega⟩ (fun H1 locs1 hR => ?_)
  refine rw_istore (i := 6) (lv' := [(6, .int r2), (5, .int (hk (fun e => if e = 1 then 1 else if e = 3 then 2 else 0) r)), (0, .ref b), (1, .ref (gS γ 7 0)), (2, .ref (gS γ 8 0)), (3, .ref (gS γ 3000 0)), (4, .int (nI I))]) hX hl (Nat.le_of_ble_eq_true rfl) rfl dL_law_363 (fun ls hl => ?_)
  refine rw_aload_n hX hl 4 rfl (Or.inr ⟨_, rfl⟩) dL_law_365 rfl ?_
  refine rw_cVi hX hR pk_f8_thrown (mc := 0) (ms := 0) ⟨rfl, rfl, (show 1 + 1 ≤ R.frames by omega), (show 8 + (1 + 11) + 64 * 1 ≤ R.locals by omega)⟩ (As := []) (rest := []) rfl (C_f8_thrown l γ ad σ2 _ hth) gw_1074 gw_1075 gw_1076 (rs_recv hX hR 8 0 (C := RX7) (T := TX7) (N := 48) rfl (by decide) (Nat.le_of_ble_eq_true rfl) rfl) rfl hl.1 ca0 (Nat.le_of_ble_eq_true rfl) dL_law_366 ⟨by omega, by omega⟩ (fun H1 locs1 hR => ?_)
  refine rw_iload hX hl 1 rfl dL_law_369 ?_
  refine lv_icmp_eq (x := hk (fun e => if e = 1 then 1 else if e = 3 then 2 else 0) r) (y := hk (fun e => if e = 1 then 1 else if e = 3 then 2 else 0) r) (tgt := 376) hX.1.1 hX.1.2.1 dL_law_371 (by decide) (fun c0 => ?_) (fun c0 => absurd rfl c0)
  refine rw_iload hX hl 1 rfl dL_law_376 ?_
  replace hl := lh_sub hl [2, 3, 4, 5, 6, 1, 0] rfl
  refine lv_if_ne (x := hk (fun e => if e = 1 then 1 else if e = 3 then 2 else 0) r) (tgt := 393) hX.1.1 hX.1.2.1 dL_law_378 (by decide) (fun c0 => ?_) (fun c0 => ?_)
  · refine lv_goto (tgt := 2230) hX.1.1 hX.1.2.1 dL_law_393 (by decide) ?_
    exact kk ad ls _ _ (lh_sub hl [0, 1, 2, 3, 4] rfl) hR
  have hv1 := hv c0
  refine rw_aload_n hX hl 3 rfl (Or.inr ⟨_, rfl⟩) dL_law_381 rfl ?_
  refine lv_iconst (v := 0) hX.1.1 hX.1.2.1 dL_law_382 rfl ?_
  refine rw_outld hX hR dL_law_383 ?_
  rw [hv1]
  refine rw_iload hX hl 6 rfl dL_law_384 ?_
  refine lv_i2l hX.1.1 hX.1.2.1 dL_law_386 rfl ?_
  refine W.lcmp hX.1.1 hX.1.2.1 dL_law_387 ?_
  rw [lg_self]
  refine lv_if_eq (x := 0) (tgt := 393) hX.1.1 hX.1.2.1 dL_law_388 (by decide) (fun c2 => ?_) (fun c2 => absurd rfl c2)
  refine lv_goto (tgt := 2230) hX.1.1 hX.1.2.1 dL_law_393 (by decide) ?_
  exact kk ad ls _ _ (lh_sub hl [0, 1, 2, 3, 4] rfl) hR
set_option maxHeartbeats 8000000 in
set_option maxRecDepth 100000 in
theorem LC_2 {p : Program} {l : Launch} (hfl : l.stackTraces = false) {e : Env} {R : Room} {s : State} {m : MethodId} {args : Array Value} {below : List Frame} {meth : Method} {c : Code} {H : Heap} {locs : List Loc} {cells slots : Nat} {Q : State → Prop} {γ : GT} {ad : Nat → Nat → Nat} {σ : St} {b L : Nat} {xs : Nat → Int32} {ls : Array Slot} (hX : CX γ p s m args c cL_law 7 RL) (hsc : SC γ s b L xs) (hRf : 100 ≤ R.frames ∧ 8000 ≤ R.locals) {fu I : Nat} (hI : I + 8 ≤ L) (hR : RS γ ad σ s H locs) (hl : lh ls 7 (lv7 γ b (nI I))) (hf : cells + 30 ≤ R.cells ∧ slots + 6228 ≤ R.slots) {r : Except Nat Int32} {σ1 : St} (hw7 : f7_driver fu (xs (I + 1)) (xs (I + 2)) (xs (I + 3)) (!(xs (I + 4) == 0)) σ = some (r, σ1)) (he : ∀ e, r = .error e → e = 2 ∨ e = 3) {r2 : Int32} {σ2 : St} (hw8 : f8_driver fu (xs (I + 1)) (xs (I + 2)) (xs (I + 3)) (!(xs (I + 4) == 0)) (hoi σ1 r) = some (r2, σ2)) (hth : f8_thrown fu σ2 = some (hk (fun e => if e = 2 then 1 else if e = 3 then 2 else 0) r)) (hv : hk (fun e => if e = 2 then 1 else if e = 3 then 2 else 0) r = 0 → go σ2 = r2.toInt64)
    (kk : ∀ (ad : Nat → Nat → Nat) (ls : Array Slot) (H : Heap) (locs : List Loc), lh ls 7 (lv7 γ b (nI I)) → RS γ ad σ2 s H locs → W p l e R s m args below meth c H locs (cells + 30) (slots + 6228) Q (F0 m 2230 ls [])) : W p l e R s m args below meth c H locs cells slots Q (F0 m 396 ls []) := by
  refine rw_aload_n hX hl 1 rfl (Or.inr ⟨_, rfl⟩) dL_law_396 rfl ?_
  refine rw_aload_n hX hl 0 rfl (Or.inr ⟨_, rfl⟩) dL_law_397 rfl ?_
  refine rw_iload hX hl 4 rfl dL_law_398 ?_
  refine lv_iconst (v := 1) hX.1.1 hX.1.2.1 dL_law_400 rfl ?_
  refine lv_iadd hX.1.1 hX.1.2.1 dL_law_401 ?_
  refine rw_scr hX hR.2 hsc (k := I + 1) (nI_plus I 1) (by omega) dL_law_402 ?_
  refine rw_aload_n hX hl 0 rfl (Or.inr ⟨_, rfl⟩) dL_law_403 rfl ?_
  refine rw_iload hX hl 4 rfl dL_law_404 ?_
  refine lv_iconst (v := 2) hX.1.1 hX.1.2.1 dL_law_406 rfl ?_
  refine lv_iadd hX.1.1 hX.1.2.1 dL_law_407 ?_
  refine rw_scr hX hR.2 hsc (k := I + 2) (nI_plus I 2) (by omega) dL_law_408 ?_
  refine rw_aload_n hX hl 0 rfl (Or.inr ⟨_, rfl⟩) dL_law_409 rfl ?_
  refine rw_iload hX hl 4 rfl dL_law_410 ?_
  refine lv_iconst (v := 3) hX.1.1 hX.1.2.1 dL_law_412 rfl ?_
  refine lv_iadd hX.1.1 hX.1.2.1 dL_law_413 ?_
  refine rw_scr hX hR.2 hsc (k := I + 3) (nI_plus I 3) (by omega) dL_law_414 ?_
  refine rw_aload_n hX hl 0 rfl (Or.inr ⟨_, rfl⟩) dL_law_415 rfl ?_
  refine rw_iload hX hl 4 rfl dL_law_416 ?_
  refine lv_iconst (v := 4) hX.1.1 hX.1.2.1 dL_law_418 rfl ?_
  refine lv_iadd hX.1.1 hX.1.2.1 dL_law_419 ?_
  refine rw_scr hX hR.2 hsc (k := I + 4) (nI_plus I 4) (by omega) dL_law_420 ?_
  refine rw_nz (A := 428) (B := 429) hX dL_law_421 (by decide) dL_law_424 dL_law_425 (by decide) dL_law_428 rfl ?_
  refine rw_aload_n hX hl 3 rfl (Or.inr ⟨_, rfl⟩) dL_law_429 rfl ?_
  refine rw_cSW hX hR (y := yL_driver) (bytes := cL_driver) (maxL := 7) (hh := [(0, 14, 17, 15), (0, 14, 21, 17)]) (n := 6) ⟨gw_0, gw_529, by decide, gw_528⟩ (rm := rmo 85 30 6228) (mc := 30) (ms := 6228) ⟨rfl, rfl, (show 85 + 1 ≤ R.frames by omega), (show 8 + (7 + 11) + 64 * 85 ≤ R.locals by omega)⟩ (As := [.ref (gS γ 7 0), .int (xs (I + 1)), .int (xs (I + 2)), .int (xs (I + 3)), .int (b2i (!(xs (I + 4) == 0))), .ref (gS γ 3000 0)]) (rest := []) rfl (L_driver l hfl γ ad (xs (I + 1)) (xs (I + 2)) (xs (I + 3)) (!(xs (I + 4) == 0)) σ r σ1 hw7 he) gw_527 rfl hl.1 ca0 (Nat.le_of_ble_eq_true rfl) dL_law_430 hf (fun ad H1 locs1 hR => ?_)
  refine rw_istore (i := 5) (lv' := [(5, .int (hk (fun e => if e = 2 then 1 else if e = 3 then 2 else 0) r)), (0, .ref b), (1, .ref (gS γ 7 0)), (2, .ref (gS γ 8 0)), (3, .ref (gS γ 3000 0)), (4, .int (nI I))]) hX hl (Nat.le_of_ble_eq_true rfl) rfl dL_law_433 (fun ls hl => ?_)
  refine rw_aload_n hX hl 3 rfl (Or.inr ⟨_, rfl⟩) dL_law_435 rfl ?_
  refine rw_aload_n hX hl 1 rfl (Or.inr ⟨_, rfl⟩) dL_law_436 rfl ?_
  refine rw_iload hX hl 5 rfl dL_law_437 ?_
  refine lv_iconst (v := 1) hX.1.1 hX.1.2.1 dL_law_439 rfl ?_
  refine lv_iadd hX.1.1 hX.1.2.1 dL_law_440 ?_
  refine rw_scr hX hR.2 hsc (k := I + 1) (nI_plus I 1) (by omega) dL_law_441 ?_
  refine rw_aload_n hX hl 1 rfl (Or.inr ⟨_, rfl⟩) dL_law_442 rfl ?_
  refine rw_iload hX hl 5 rfl dL_law_443 ?_
  refine lv_iconst (v := 2) hX.1.1 hX.1.2.1 dL_law_445 rfl ?_
  refine lv_iadd hX.1.1 hX.1.2.1 dL_law_446 ?_
  refine rw_scr hX hR.2 hsc (k := I + 2) (nI_plus I 2) (by omega) dL_law_447 ?_
  refine rw_aload_n hX hl 1 rfl (Or.inr ⟨_, rfl⟩) dL_law_448 rfl ?_
  refine rw_iload hX hl 5 rfl dL_law_449 ?_
  refine lv_iconst (v := 3) hX.1.1 hX.1.2.1 dL_law_451 rfl ?_
  refine lv_iadd hX.1.1 hX.1.2.1 dL_law_452 ?_
  refine rw_scr hX hR.2 hsc (k := I + 3) (nI_plus I 3) (by omega) dL_law_453 ?_
  refine rw_aload_n hX hl 1 rfl (Or.inr ⟨_, rfl⟩) dL_law_454 rfl ?_
  refine rw_iload hX hl 5 rfl dL_law_455 ?_
  refine lv_iconst (v := 4) hX.1.1 hX.1.2.1 dL_law_457 rfl ?_
  refine lv_iadd hX.1.1 hX.1.2.1 dL_law_458 ?_
  refine rw_scr hX hR.2 hsc (k := I + 4) (nI_plus I 4) (by omega) dL_law_459 ?_
  refine rw_nz (A := 467) (B := 468) hX dL_law_460 (by decide) dL_law_463 dL_law_464 (by decide) dL_law_467 rfl ?_
  refine rw_cVi hX hR pk_f8_driver (mc := 0) (ms := 0) ⟨rfl, rfl, (show 6 + 1 ≤ R.frames by omega), (show 8 + (6 + 11) + 64 * 6 ≤ R.locals by omega)⟩ (As := [.int (xs (I + 1)), .int (xs (I + 2)), .int (xs (I + 3)), .int (b2i (!(xs (I + 4) == 0)))]) (rest := []) rfl (C_f8_driver l γ ad (xs (I + 1)) (xs (I + 2)) (xs (I + 3)) (!(xs (I + 4) == 0)) (hoi σ1 r) r2 σ2 hw8) gw_1164 gw_1165 gw_1166 (rs_recv hX hR 8 0 (C := RX7) (T := TX7) (N := 48) rfl (by decide) (Nat.le_of_ble_eq_true rfl) rfl) rfl hl.1 ca0 (Nat.le_of_ble_eq_true rfl) dL_law_468 ⟨by omega, by omega⟩ (fun H1 locs1 hR => ?_)
  refine rw_istore (i := 6) (lv' := [(6, .int r2), (5, .int (hk (fun e => if e = 2 then 1 else if e = 3 then 2 else 0) r)), (0, .ref b), (1, .ref (gS γ 7 0)), (2, .ref (gS γ 8 0)), (3, .ref (gS γ 3000 0)), (4, .int (nI I))]) hX hl (Nat.le_of_ble_eq_true rfl) rfl dL_law_471 (fun ls hl => ?_)
  refine rw_aload_n hX hl 4 rfl (Or.inr ⟨_, rfl⟩) dL_law_473 rfl ?_
  refine rw_cVi hX hR pk_f8_thrown (mc := 0) (ms := 0) ⟨rfl, rfl, (show 1 + 1 ≤ R.frames by omega), (show 8 + (1 + 11) + 64 * 1 ≤ R.locals by omega)⟩ (As := []) (rest := []) rfl (C_f8_thrown l γ ad σ2 _ hth) gw_1074 gw_1075 gw_1076 (rs_recv hX hR 8 0 (C := RX7) (T := TX7) (N := 48) rfl (by decide) (Nat.le_of_ble_eq_true rfl) rfl) rfl hl.1 ca0 (Nat.le_of_ble_eq_true rfl) dL_law_474 ⟨by omega, by omega⟩ (fun H1 locs1 hR => ?_)
  refine rw_iload hX hl 1 rfl dL_law_477 ?_
  refine lv_icmp_eq (x := hk (fun e => if e = 2 then 1 else if e = 3 then 2 else 0) r) (y := hk (fun e => if e = 2 then 1 else if e = 3 then 2 else 0) r) (tgt := 484) hX.1.1 hX.1.2.1 dL_law_479 (by decide) (fun c0 => ?_) (fun c0 => absurd rfl c0)
  refine rw_iload hX hl 1 rfl dL_law_484 ?_
  replace hl := lh_sub hl [2, 3, 4, 5, 6, 1, 0] rfl
  refine lv_if_ne (x := hk (fun e => if e = 2 then 1 else if e = 3 then 2 else 0) r) (tgt := 501) hX.1.1 hX.1.2.1 dL_law_486 (by decide) (fun c0 => ?_) (fun c0 => ?_)
  · refine lv_goto (tgt := 2230) hX.1.1 hX.1.2.1 dL_law_501 (by decide) ?_
    exact kk ad ls _ _ (lh_sub hl [0, 1, 2, 3, 4] rfl) hR
  have hv1 := hv c0
  refine rw_aload_n hX hl 3 rfl (Or.inr ⟨_, rfl⟩) dL_law_489 rfl ?_
  refine lv_iconst (v := 0) hX.1.1 hX.1.2.1 dL_law_490 rfl ?_
  refine rw_outld hX hR dL_law_491 ?_
  rw [hv1]
  refine rw_iload hX hl 6 rfl dL_law_492 ?_
  refine lv_i2l hX.1.1 hX.1.2.1 dL_law_494 rfl ?_
  refine W.lcmp hX.1.1 hX.1.2.1 dL_law_495 ?_
  rw [lg_self]
  refine lv_if_eq (x := 0) (tgt := 501) hX.1.1 hX.1.2.1 dL_law_496 (by decide) (fun c2 => ?_) (fun c2 => absurd rfl c2)
  refine lv_goto (tgt := 2230) hX.1.1 hX.1.2.1 dL_law_501 (by decide) ?_
  exact kk ad ls _ _ (lh_sub hl [0, 1, 2, 3, 4] rfl) hR
set_option maxHeartbeats 8000000 in
set_option maxRecDepth 100000 in
theorem LC_3 {p : Program} {l : Launch} (hfl : l.stackTraces = false) {e : Env} {R : Room} {s : State} {m : MethodId} {args : Array Value} {below : List Frame} {meth : Method} {c : Code} {H : Heap} {locs : List Loc} {cells slots : Nat} {Q : State → Prop} {γ : GT} {ad : Nat → Nat → Nat} {σ : St} {b L : Nat} {xs : Nat → Int32} {ls : Array Slot} (hX : CX γ p s m args c cL_law 7 RL) (hsc : SC γ s b L xs) (hRf : 100 ≤ R.frames ∧ 8000 ≤ R.locals) {fu I : Nat} (hI : I + 8 ≤ L) (hR : RS γ ad σ s H locs) (hl : lh ls 7 (lv7 γ b (nI I))) (hf : cells + 28 ≤ R.cells ∧ slots + 5992 ≤ R.slots) {r : Except Nat Int32} {σ1 : St} (hw7 : f7_load fu (xs (I + 1)) (xs (I + 2)) σ = some (r, σ1)) (he : ∀ e, r = .error e → e = 1 ∨ e = 2) {r2 : Int32} {σ2 : St} (hw8 : f8_load fu (xs (I + 1)) (xs (I + 2)) (hoi σ1 r) = some (r2, σ2)) (hth : f8_thrown fu σ2 = some (hk (fun e => if e = 1 then 1 else if e = 2 then 2 else 0) r)) (hv : hk (fun e => if e = 1 then 1 else if e = 2 then 2 else 0) r = 0 → go σ2 = r2.toInt64)
    (kk : ∀ (ad : Nat → Nat → Nat) (ls : Array Slot) (H : Heap) (locs : List Loc), lh ls 7 (lv7 γ b (nI I)) → RS γ ad σ2 s H locs → W p l e R s m args below meth c H locs (cells + 28) (slots + 5992) Q (F0 m 2230 ls [])) : W p l e R s m args below meth c H locs cells slots Q (F0 m 504 ls []) := by
  refine rw_aload_n hX hl 1 rfl (Or.inr ⟨_, rfl⟩) dL_law_504 rfl ?_
  refine rw_aload_n hX hl 0 rfl (Or.inr ⟨_, rfl⟩) dL_law_505 rfl ?_
  refine rw_iload hX hl 4 rfl dL_law_506 ?_
  refine lv_iconst (v := 1) hX.1.1 hX.1.2.1 dL_law_508 rfl ?_
  refine lv_iadd hX.1.1 hX.1.2.1 dL_law_509 ?_
  refine rw_scr hX hR.2 hsc (k := I + 1) (nI_plus I 1) (by omega) dL_law_510 ?_
  refine rw_aload_n hX hl 0 rfl (Or.inr ⟨_, rfl⟩) dL_law_511 rfl ?_
  refine rw_iload hX hl 4 rfl dL_law_512 ?_
  refine lv_iconst (v := 2) hX.1.1 hX.1.2.1 dL_law_514 rfl ?_
  refine lv_iadd hX.1.1 hX.1.2.1 dL_law_515 ?_
  refine rw_scr hX hR.2 hsc (k := I + 2) (nI_plus I 2) (by omega) dL_law_516 ?_
  refine rw_aload_n hX hl 3 rfl (Or.inr ⟨_, rfl⟩) dL_law_517 rfl ?_
  refine rw_cSW hX hR (y := yL_load) (bytes := cL_load) (maxL := 5) (hh := [(0, 10, 13, 13), (0, 10, 17, 15)]) (n := 4) ⟨gw_0, gw_565, by decide, gw_564⟩ (rm := rmo 85 28 5992) (mc := 28) (ms := 5992) ⟨rfl, rfl, (show 85 + 1 ≤ R.frames by omega), (show 8 + (5 + 11) + 64 * 85 ≤ R.locals by omega)⟩ (As := [.ref (gS γ 7 0), .int (xs (I + 1)), .int (xs (I + 2)), .ref (gS γ 3000 0)]) (rest := []) rfl (L_load l hfl γ ad (xs (I + 1)) (xs (I + 2)) σ r σ1 hw7 he) gw_563 rfl hl.1 ca0 (Nat.le_of_ble_eq_true rfl) dL_law_518 hf (fun ad H1 locs1 hR => ?_)
  refine rw_istore (i := 5) (lv' := [(5, .int (hk (fun e => if e = 1 then 1 else if e = 2 then 2 else 0) r)), (0, .ref b), (1, .ref (gS γ 7 0)), (2, .ref (gS γ 8 0)), (3, .ref (gS γ 3000 0)), (4, .int (nI I))]) hX hl (Nat.le_of_ble_eq_true rfl) rfl dL_law_521 (fun ls hl => ?_)
  refine rw_aload_n hX hl 3 rfl (Or.inr ⟨_, rfl⟩) dL_law_523 rfl ?_
  refine rw_aload_n hX hl 1 rfl (Or.inr ⟨_, rfl⟩) dL_law_524 rfl ?_
  refine rw_iload hX hl 5 rfl dL_law_525 ?_
  refine lv_iconst (v := 1) hX.1.1 hX.1.2.1 dL_law_527 rfl ?_
  refine lv_iadd hX.1.1 hX.1.2.1 dL_law_528 ?_
  refine rw_scr hX hR.2 hsc (k := I + 1) (nI_plus I 1) (by omega) dL_law_529 ?_
  refine rw_aload_n hX hl 1 rfl (Or.inr ⟨_, rfl⟩) dL_law_530 rfl ?_
  refine rw_iload hX hl 5 rfl dL_law_531 ?_
  refine lv_iconst (v := 2) hX.1.1 hX.1.2.1 dL_law_533 rfl ?_
  refine lv_iadd hX.1.1 hX.1.2.1 dL_law_534 ?_
  refine rw_scr hX hR.2 hsc (k := I + 2) (nI_plus I 2) (by omega) dL_law_535 ?_
  refine rw_cVi hX hR pk_f8_load (mc := 0) (ms := 0) ⟨rfl, rfl, (show 6 + 1 ≤ R.frames by omega), (show 8 + (4 + 11) + 64 * 6 ≤ R.locals by omega)⟩ (As := [.int (xs (I + 1)), .int (xs (I + 2))]) (rest := []) rfl (C_f8_load l γ ad (xs (I + 1)) (xs (I + 2)) (hoi σ1 r) r2 σ2 hw8) gw_1168 gw_1169 gw_1170 (rs_recv hX hR 8 0 (C := RX7) (T := TX7) (N := 48) rfl (by decide) (Nat.le_of_ble_eq_true rfl) rfl) rfl hl.1 ca0 (Nat.le_of_ble_eq_true rfl) dL_law_536 ⟨by omega, by omega⟩ (fun H1 locs1 hR => ?_)
  refine rw_istore (i := 6) (lv' := [(6, .int r2), (5, .int (hk (fun e => if e = 1 then 1 else if e = 2 then 2 else 0) r)), (0, .ref b), (1, .ref (gS γ 7 0)), (2, .ref (gS γ 8 0)), (3, .ref (gS γ 3000 0)), (4, .int (nI I))]) hX hl (Nat.le_of_ble_eq_true rfl) rfl dL_law_539 (fun ls hl => ?_)
  refine rw_aload_n hX hl 4 rfl (Or.inr ⟨_, rfl⟩) dL_law_541 rfl ?_
  refine rw_cVi hX hR pk_f8_thrown (mc := 0) (ms := 0) ⟨rfl, rfl, (show 1 + 1 ≤ R.frames by omega), (show 8 + (1 + 11) + 64 * 1 ≤ R.locals by omega)⟩ (As := []) (rest := []) rfl (C_f8_thrown l γ ad σ2 _ hth) gw_1074 gw_1075 gw_1076 (rs_recv hX hR 8 0 (C := RX7) (T := TX7) (N := 48) rfl (by decide) (Nat.le_of_ble_eq_true rfl) rfl) rfl hl.1 ca0 (Nat.le_of_ble_eq_true rfl) dL_law_542 ⟨by omega, by omega⟩ (fun H1 locs1 hR => ?_)
  refine rw_iload hX hl 1 rfl dL_law_545 ?_
  refine lv_icmp_eq (x := hk (fun e => if e = 1 then 1 else if e = 2 then 2 else 0) r) (y := hk (fun e => if e = 1 then 1 else if e = 2 then 2 else 0) r) (tgt := 552) hX.1.1 hX.1.2.1 dL_law_547 (by decide) (fun c0 => ?_) (fun c0 => absurd rfl c0)
  refine rw_iload hX hl 1 rfl dL_law_552 ?_
  replace hl := lh_sub hl [2, 3, 4, 5, 6, 1, 0] rfl
  refine lv_if_ne (x := hk (fun e => if e = 1 then 1 else if e = 2 then 2 else 0) r) (tgt := 569) hX.1.1 hX.1.2.1 dL_law_554 (by decide) (fun c0 => ?_) (fun c0 => ?_)
  · refine lv_goto (tgt := 2230) hX.1.1 hX.1.2.1 dL_law_569 (by decide) ?_
    exact kk ad ls _ _ (lh_sub hl [0, 1, 2, 3, 4] rfl) hR
  have hv1 := hv c0
  refine rw_aload_n hX hl 3 rfl (Or.inr ⟨_, rfl⟩) dL_law_557 rfl ?_
  refine lv_iconst (v := 0) hX.1.1 hX.1.2.1 dL_law_558 rfl ?_
  refine rw_outld hX hR dL_law_559 ?_
  rw [hv1]
  refine rw_iload hX hl 6 rfl dL_law_560 ?_
  refine lv_i2l hX.1.1 hX.1.2.1 dL_law_562 rfl ?_
  refine W.lcmp hX.1.1 hX.1.2.1 dL_law_563 ?_
  rw [lg_self]
  refine lv_if_eq (x := 0) (tgt := 569) hX.1.1 hX.1.2.1 dL_law_564 (by decide) (fun c2 => ?_) (fun c2 => absurd rfl c2)
  refine lv_goto (tgt := 2230) hX.1.1 hX.1.2.1 dL_law_569 (by decide) ?_
  exact kk ad ls _ _ (lh_sub hl [0, 1, 2, 3, 4] rfl) hR
set_option maxHeartbeats 8000000 in
set_option maxRecDepth 100000 in
theorem LC_4 {p : Program} {l : Launch} (hfl : l.stackTraces = false) {e : Env} {R : Room} {s : State} {m : MethodId} {args : Array Value} {below : List Frame} {meth : Method} {c : Code} {H : Heap} {locs : List Loc} {cells slots : Nat} {Q : State → Prop} {γ : GT} {ad : Nat → Nat → Nat} {σ : St} {b L : Nat} {xs : Nat → Int32} {ls : Array Slot} (hX : CX γ p s m args c cL_law 7 RL) (hsc : SC γ s b L xs) (hRf : 100 ≤ R.frames ∧ 8000 ≤ R.locals) {fu I : Nat} (hI : I + 8 ≤ L) (hR : RS γ ad σ s H locs) (hl : lh ls 7 (lv7 γ b (nI I))) (hf : cells + 28 ≤ R.cells ∧ slots + 5992 ≤ R.slots) {r : Except Nat Int32} {σ1 : St} (hw7 : f7_unbind fu (xs (I + 1)) σ = some (r, σ1)) (he : ∀ e, r = .error e → e = 1 ∨ e = 3) {r2 : Int32} {σ2 : St} (hw8 : f8_unbind fu (xs (I + 1)) (hoi σ1 r) = some (r2, σ2)) (hth : f8_thrown fu σ2 = some (hk (fun e => if e = 1 then 1 else if e = 3 then 2 else 0) r)) (hv : hk (fun e => if e = 1 then 1 else if e = 3 then 2 else 0) r = 0 → go σ2 = r2.toInt64)
    (kk : ∀ (ad : Nat → Nat → Nat) (ls : Array Slot) (H : Heap) (locs : List Loc), lh ls 7 (lv7 γ b (nI I)) → RS γ ad σ2 s H locs → W p l e R s m args below meth c H locs (cells + 28) (slots + 5992) Q (F0 m 2230 ls [])) : W p l e R s m args below meth c H locs cells slots Q (F0 m 572 ls []) := by
  refine rw_aload_n hX hl 1 rfl (Or.inr ⟨_, rfl⟩) dL_law_572 rfl ?_
  refine rw_aload_n hX hl 0 rfl (Or.inr ⟨_, rfl⟩) dL_law_573 rfl ?_
  refine rw_iload hX hl 4 rfl dL_law_574 ?_
  refine lv_iconst (v := 1) hX.1.1 hX.1.2.1 dL_law_576 rfl ?_
  refine lv_iadd hX.1.1 hX.1.2.1 dL_law_577 ?_
  refine rw_scr hX hR.2 hsc (k := I + 1) (nI_plus I 1) (by omega) dL_law_578 ?_
  refine rw_aload_n hX hl 3 rfl (Or.inr ⟨_, rfl⟩) dL_law_579 rfl ?_
  refine rw_cSW hX hR (y := yL_unbind) (bytes := cL_unbind) (maxL := 4) (hh := [(0, 9, 12, 13), (0, 9, 15, 17)]) (n := 3) ⟨gw_0, gw_574, by decide, gw_573⟩ (rm := rmo 85 28 5992) (mc := 28) (ms := 5992) ⟨rfl, rfl, (show 85 + 1 ≤ R.frames by omega), (show 8 + (4 + 11) + 64 * 85 ≤ R.locals by omega)⟩ (As := [.ref (gS γ 7 0), .int (xs (I + 1)), .ref (gS γ 3000 0)]) (rest := []) rfl (L_unbind l hfl γ ad (xs (I + 1)) σ r σ1 hw7 he) gw_572 rfl hl.1 ca0 (Nat.le_of_ble_eq_true rfl) dL_law_580 hf (fun ad H1 locs1 hR => ?_)
  refine rw_istore (i := 5) (lv' := [(5, .int (hk (fun e => if e = 1 then 1 else if e = 3 then 2 else 0) r)), (0, .ref b), (1, .ref (gS γ 7 0)), (2, .ref (gS γ 8 0)), (3, .ref (gS γ 3000 0)), (4, .int (nI I))]) hX hl (Nat.le_of_ble_eq_true rfl) rfl dL_law_583 (fun ls hl => ?_)
  refine rw_aload_n hX hl 3 rfl (Or.inr ⟨_, rfl⟩) dL_law_585 rfl ?_
  refine rw_aload_n hX hl 1 rfl (Or.inr ⟨_, rfl⟩) dL_law_586 rfl ?_
  refine rw_iload hX hl 5 rfl dL_law_587 ?_
  refine lv_iconst (v := 1) hX.1.1 hX.1.2.1 dL_law_589 rfl ?_
  refine lv_iadd hX.1.1 hX.1.2.1 dL_law_590 ?_
  refine rw_scr hX hR.2 hsc (k := I + 1) (nI_plus I 1) (by omega) dL_law_591 ?_
  refine rw_cVi hX hR pk_f8_unbind (mc := 0) (ms := 0) ⟨rfl, rfl, (show 6 + 1 ≤ R.frames by omega), (show 8 + (3 + 11) + 64 * 6 ≤ R.locals by omega)⟩ (As := [.int (xs (I + 1))]) (rest := []) rfl (C_f8_unbind l γ ad (xs (I + 1)) (hoi σ1 r) r2 σ2 hw8) gw_1172 gw_1173 gw_1174 (rs_recv hX hR 8 0 (C := RX7) (T := TX7) (N := 48) rfl (by decide) (Nat.le_of_ble_eq_true rfl) rfl) rfl hl.1 ca0 (Nat.le_of_ble_eq_true rfl) dL_law_592 ⟨by omega, by omega⟩ (fun H1 locs1 hR => ?_)
  refine rw_istore (i := 6) (lv' := [(6, .int r2), (5, .int (hk (fun e => if e = 1 then 1 else if e = 3 then 2 else 0) r)), (0, .ref b), (1, .ref (gS γ 7 0)), (2, .ref (gS γ 8 0)), (3, .ref (gS γ 3000 0)), (4, .int (nI I))]) hX hl (Nat.le_of_ble_eq_true rfl) rfl dL_law_595 (fun ls hl => ?_)
  refine rw_aload_n hX hl 4 rfl (Or.inr ⟨_, rfl⟩) dL_law_597 rfl ?_
  refine rw_cVi hX hR pk_f8_thrown (mc := 0) (ms := 0) ⟨rfl, rfl, (show 1 + 1 ≤ R.frames by omega), (show 8 + (1 + 11) + 64 * 1 ≤ R.locals by omega)⟩ (As := []) (rest := []) rfl (C_f8_thrown l γ ad σ2 _ hth) gw_1074 gw_1075 gw_1076 (rs_recv hX hR 8 0 (C := RX7) (T := TX7) (N := 48) rfl (by decide) (Nat.le_of_ble_eq_true rfl) rfl) rfl hl.1 ca0 (Nat.le_of_ble_eq_true rfl) dL_law_598 ⟨by omega, by omega⟩ (fun H1 locs1 hR => ?_)
  refine rw_iload hX hl 1 rfl dL_law_601 ?_
  refine lv_icmp_eq (x := hk (fun e => if e = 1 then 1 else if e = 3 then 2 else 0) r) (y := hk (fun e => if e = 1 then 1 else if e = 3 then 2 else 0) r) (tgt := 608) hX.1.1 hX.1.2.1 dL_law_603 (by decide) (fun c0 => ?_) (fun c0 => absurd rfl c0)
  refine rw_iload hX hl 1 rfl dL_law_608 ?_
  replace hl := lh_sub hl [2, 3, 4, 5, 6, 1, 0] rfl
  refine lv_if_ne (x := hk (fun e => if e = 1 then 1 else if e = 3 then 2 else 0) r) (tgt := 625) hX.1.1 hX.1.2.1 dL_law_610 (by decide) (fun c0 => ?_) (fun c0 => ?_)
  · refine lv_goto (tgt := 2230) hX.1.1 hX.1.2.1 dL_law_625 (by decide) ?_
    exact kk ad ls _ _ (lh_sub hl [0, 1, 2, 3, 4] rfl) hR
  have hv1 := hv c0
  refine rw_aload_n hX hl 3 rfl (Or.inr ⟨_, rfl⟩) dL_law_613 rfl ?_
  refine lv_iconst (v := 0) hX.1.1 hX.1.2.1 dL_law_614 rfl ?_
  refine rw_outld hX hR dL_law_615 ?_
  rw [hv1]
  refine rw_iload hX hl 6 rfl dL_law_616 ?_
  refine lv_i2l hX.1.1 hX.1.2.1 dL_law_618 rfl ?_
  refine W.lcmp hX.1.1 hX.1.2.1 dL_law_619 ?_
  rw [lg_self]
  refine lv_if_eq (x := 0) (tgt := 625) hX.1.1 hX.1.2.1 dL_law_620 (by decide) (fun c2 => ?_) (fun c2 => absurd rfl c2)
  refine lv_goto (tgt := 2230) hX.1.1 hX.1.2.1 dL_law_625 (by decide) ?_
  exact kk ad ls _ _ (lh_sub hl [0, 1, 2, 3, 4] rfl) hR
set_option maxHeartbeats 8000000 in
set_option maxRecDepth 100000 in
theorem LC_5 {p : Program} {l : Launch} (hfl : l.stackTraces = false) {e : Env} {R : Room} {s : State} {m : MethodId} {args : Array Value} {below : List Frame} {meth : Method} {c : Code} {H : Heap} {locs : List Loc} {cells slots : Nat} {Q : State → Prop} {γ : GT} {ad : Nat → Nat → Nat} {σ : St} {b L : Nat} {xs : Nat → Int32} {ls : Array Slot} (hX : CX γ p s m args c cL_law 7 RL) (hsc : SC γ s b L xs) (hRf : 100 ≤ R.frames ∧ 8000 ≤ R.locals) {fu I : Nat} (hI : I + 8 ≤ L) (hR : RS γ ad σ s H locs) (hl : lh ls 7 (lv7 γ b (nI I))) (hf : cells + 28 ≤ R.cells ∧ slots + 5992 ≤ R.slots) {r : Except Nat Int32} {σ1 : St} (hw7 : f7_bind fu (xs (I + 1)) σ = some (r, σ1)) (he : ∀ e, r = .error e → e = 1 ∨ e = 3) {r2 : Int32} {σ2 : St} (hw8 : f8_bind fu (xs (I + 1)) (hoi σ1 r) = some (r2, σ2)) (hth : f8_thrown fu σ2 = some (hk (fun e => if e = 1 then 1 else if e = 3 then 2 else 0) r)) (hv : hk (fun e => if e = 1 then 1 else if e = 3 then 2 else 0) r = 0 → go σ2 = r2.toInt64)
    (kk : ∀ (ad : Nat → Nat → Nat) (ls : Array Slot) (H : Heap) (locs : List Loc), lh ls 7 (lv7 γ b (nI I)) → RS γ ad σ2 s H locs → W p l e R s m args below meth c H locs (cells + 28) (slots + 5992) Q (F0 m 2230 ls [])) : W p l e R s m args below meth c H locs cells slots Q (F0 m 628 ls []) := by
  refine rw_aload_n hX hl 1 rfl (Or.inr ⟨_, rfl⟩) dL_law_628 rfl ?_
  refine rw_aload_n hX hl 0 rfl (Or.inr ⟨_, rfl⟩) dL_law_629 rfl ?_
  refine rw_iload hX hl 4 rfl dL_law_630 ?_
  refine lv_iconst (v := 1) hX.1.1 hX.1.2.1 dL_law_632 rfl ?_
  refine lv_iadd hX.1.1 hX.1.2.1 dL_law_633 ?_
  refine rw_scr hX hR.2 hsc (k := I + 1) (nI_plus I 1) (by omega) dL_law_634 ?_
  refine rw_aload_n hX hl 3 rfl (Or.inr ⟨_, rfl⟩) dL_law_635 rfl ?_
  refine rw_cSW hX hR (y := yL_bind) (bytes := cL_bind) (maxL := 4) (hh := [(0, 9, 12, 13), (0, 9, 15, 17)]) (n := 3) ⟨gw_0, gw_582, by decide, gw_581⟩ (rm := rmo 85 28 5992) (mc := 28) (ms := 5992) ⟨rfl, rfl, (show 85 + 1 ≤ R.frames by omega), (show 8 + (4 + 11) + 64 * 85 ≤ R.locals by omega)⟩ (As := [.ref (gS γ 7 0), .int (xs (I + 1)), .ref (gS γ 3000 0)]) (rest := []) rfl (L_bind l hfl γ ad (xs (I + 1)) σ r σ1 hw7 he) gw_580 rfl hl.1 ca0 (Nat.le_of_ble_eq_true rfl) dL_law_636 hf (fun ad H1 locs1 hR => ?_)
  refine rw_istore (i := 5) (lv' := [(5, .int (hk (fun e => if e = 1 then 1 else if e = 3 then 2 else 0) r)), (0, .ref b), (1, .ref (gS γ 7 0)), (2, .ref (gS γ 8 0)), (3, .ref (gS γ 3000 0)), (4, .int (nI I))]) hX hl (Nat.le_of_ble_eq_true rfl) rfl dL_law_639 (fun ls hl => ?_)
  refine rw_aload_n hX hl 3 rfl (Or.inr ⟨_, rfl⟩) dL_law_641 rfl ?_
  refine rw_aload_n hX hl 1 rfl (Or.inr ⟨_, rfl⟩) dL_law_642 rfl ?_
  refine rw_iload hX hl 5 rfl dL_law_643 ?_
  refine lv_iconst (v := 1) hX.1.1 hX.1.2.1 dL_law_645 rfl ?_
  refine lv_iadd hX.1.1 hX.1.2.1 dL_law_646 ?_
  refine rw_scr hX hR.2 hsc (k := I + 1) (nI_plus I 1) (by omega) dL_law_647 ?_
  refine rw_cVi hX hR pk_f8_bind (mc := 0) (ms := 0) ⟨rfl, rfl, (show 6 + 1 ≤ R.frames by omega), (show 8 + (3 + 11) + 64 * 6 ≤ R.locals by omega)⟩ (As := [.int (xs (I + 1))]) (rest := []) rfl (C_f8_bind l γ ad (xs (I + 1)) (hoi σ1 r) r2 σ2 hw8) gw_1176 gw_1177 gw_1178 (rs_recv hX hR 8 0 (C := RX7) (T := TX7) (N := 48) rfl (by decide) (Nat.le_of_ble_eq_true rfl) rfl) rfl hl.1 ca0 (Nat.le_of_ble_eq_true rfl) dL_law_648 ⟨by omega, by omega⟩ (fun H1 locs1 hR => ?_)
  refine rw_istore (i := 6) (lv' := [(6, .int r2), (5, .int (hk (fun e => if e = 1 then 1 else if e = 3 then 2 else 0) r)), (0, .ref b), (1, .ref (gS γ 7 0)), (2, .ref (gS γ 8 0)), (3, .ref (gS γ 3000 0)), (4, .int (nI I))]) hX hl (Nat.le_of_ble_eq_true rfl) rfl dL_law_651 (fun ls hl => ?_)
  refine rw_aload_n hX hl 4 rfl (Or.inr ⟨_, rfl⟩) dL_law_653 rfl ?_
  refine rw_cVi hX hR pk_f8_thrown (mc := 0) (ms := 0) ⟨rfl, rfl, (show 1 + 1 ≤ R.frames by omega), (show 8 + (1 + 11) + 64 * 1 ≤ R.locals by omega)⟩ (As := []) (rest := []) rfl (C_f8_thrown l γ ad σ2 _ hth) gw_1074 gw_1075 gw_1076 (rs_recv hX hR 8 0 (C := RX7) (T := TX7) (N := 48) rfl (by decide) (Nat.le_of_ble_eq_true rfl) rfl) rfl hl.1 ca0 (Nat.le_of_ble_eq_true rfl) dL_law_654 ⟨by omega, by omega⟩ (fun H1 locs1 hR => ?_)
  refine rw_iload hX hl 1 rfl dL_law_657 ?_
  refine lv_icmp_eq (x := hk (fun e => if e = 1 then 1 else if e = 3 then 2 else 0) r) (y := hk (fun e => if e = 1 then 1 else if e = 3 then 2 else 0) r) (tgt := 664) hX.1.1 hX.1.2.1 dL_law_659 (by decide) (fun c0 => ?_) (fun c0 => absurd rfl c0)
  refine rw_iload hX hl 1 rfl dL_law_664 ?_
  replace hl := lh_sub hl [2, 3, 4, 5, 6, 1, 0] rfl
  refine lv_if_ne (x := hk (fun e => if e = 1 then 1 else if e = 3 then 2 else 0) r) (tgt := 681) hX.1.1 hX.1.2.1 dL_law_666 (by decide) (fun c0 => ?_) (fun c0 => ?_)
  · refine lv_goto (tgt := 2230) hX.1.1 hX.1.2.1 dL_law_681 (by decide) ?_
    exact kk ad ls _ _ (lh_sub hl [0, 1, 2, 3, 4] rfl) hR
  have hv1 := hv c0
  refine rw_aload_n hX hl 3 rfl (Or.inr ⟨_, rfl⟩) dL_law_669 rfl ?_
  refine lv_iconst (v := 0) hX.1.1 hX.1.2.1 dL_law_670 rfl ?_
  refine rw_outld hX hR dL_law_671 ?_
  rw [hv1]
  refine rw_iload hX hl 6 rfl dL_law_672 ?_
  refine lv_i2l hX.1.1 hX.1.2.1 dL_law_674 rfl ?_
  refine W.lcmp hX.1.1 hX.1.2.1 dL_law_675 ?_
  rw [lg_self]
  refine lv_if_eq (x := 0) (tgt := 681) hX.1.1 hX.1.2.1 dL_law_676 (by decide) (fun c2 => ?_) (fun c2 => absurd rfl c2)
  refine lv_goto (tgt := 2230) hX.1.1 hX.1.2.1 dL_law_681 (by decide) ?_
  exact kk ad ls _ _ (lh_sub hl [0, 1, 2, 3, 4] rfl) hR
set_option maxHeartbeats 8000000 in
set_option maxRecDepth 100000 in
theorem LC_6 {p : Program} {l : Launch} (hfl : l.stackTraces = false) {e : Env} {R : Room} {s : State} {m : MethodId} {args : Array Value} {below : List Frame} {meth : Method} {c : Code} {H : Heap} {locs : List Loc} {cells slots : Nat} {Q : State → Prop} {γ : GT} {ad : Nat → Nat → Nat} {σ : St} {b L : Nat} {xs : Nat → Int32} {ls : Array Slot} (hX : CX γ p s m args c cL_law 7 RL) (hsc : SC γ s b L xs) (hRf : 100 ≤ R.frames ∧ 8000 ≤ R.locals) {fu I : Nat} (hI : I + 8 ≤ L) (hR : RS γ ad σ s H locs) (hl : lh ls 7 (lv7 γ b (nI I))) (hf : cells + 2 ≤ R.cells ∧ slots + 12 ≤ R.slots) {r : Except Nat Int32} {σ1 : St} (hw7 : f7_reset fu (xs (I + 1)) σ = some (r, σ1)) (he : ∀ e, r = .error e → e = 1 ∨ e = 3) {r2 : Int32} {σ2 : St} (hw8 : f8_reset fu (xs (I + 1)) (hoi σ1 r) = some (r2, σ2)) (hth : f8_thrown fu σ2 = some (hk (fun e => if e = 1 then 1 else if e = 3 then 2 else 0) r)) (hv : hk (fun e => if e = 1 then 1 else if e = 3 then 2 else 0) r = 0 → go σ2 = r2.toInt64)
    (kk : ∀ (ad : Nat → Nat → Nat) (ls : Array Slot) (H : Heap) (locs : List Loc), lh ls 7 (lv7 γ b (nI I)) → RS γ ad σ2 s H locs → W p l e R s m args below meth c H locs (cells + 2) (slots + 12) Q (F0 m 2230 ls [])) : W p l e R s m args below meth c H locs cells slots Q (F0 m 684 ls []) := by
  refine rw_aload_n hX hl 1 rfl (Or.inr ⟨_, rfl⟩) dL_law_684 rfl ?_
  refine rw_aload_n hX hl 0 rfl (Or.inr ⟨_, rfl⟩) dL_law_685 rfl ?_
  refine rw_iload hX hl 4 rfl dL_law_686 ?_
  refine lv_iconst (v := 1) hX.1.1 hX.1.2.1 dL_law_688 rfl ?_
  refine lv_iadd hX.1.1 hX.1.2.1 dL_law_689 ?_
  refine rw_scr hX hR.2 hsc (k := I + 1) (nI_plus I 1) (by omega) dL_law_690 ?_
  refine rw_aload_n hX hl 3 rfl (Or.inr ⟨_, rfl⟩) dL_law_691 rfl ?_
  refine rw_cSW hX hR (y := yL_reset) (bytes := cL_reset) (maxL := 4) (hh := [(0, 9, 12, 13), (0, 9, 15, 17)]) (n := 3) ⟨gw_0, gw_590, by decide, gw_589⟩ (rm := rmo 17 2 12) (mc := 2) (ms := 12) ⟨rfl, rfl, (show 17 + 1 ≤ R.frames by omega), (show 8 + (4 + 11) + 64 * 17 ≤ R.locals by omega)⟩ (As := [.ref (gS γ 7 0), .int (xs (I + 1)), .ref (gS γ 3000 0)]) (rest := []) rfl (L_reset l hfl γ ad (xs (I + 1)) σ r σ1 hw7 he) gw_588 rfl hl.1 ca0 (Nat.le_of_ble_eq_true rfl) dL_law_692 hf (fun ad H1 locs1 hR => ?_)
  refine rw_istore (i := 5) (lv' := [(5, .int (hk (fun e => if e = 1 then 1 else if e = 3 then 2 else 0) r)), (0, .ref b), (1, .ref (gS γ 7 0)), (2, .ref (gS γ 8 0)), (3, .ref (gS γ 3000 0)), (4, .int (nI I))]) hX hl (Nat.le_of_ble_eq_true rfl) rfl dL_law_695 (fun ls hl => ?_)
  refine rw_aload_n hX hl 3 rfl (Or.inr ⟨_, rfl⟩) dL_law_697 rfl ?_
  refine rw_aload_n hX hl 1 rfl (Or.inr ⟨_, rfl⟩) dL_law_698 rfl ?_
  refine rw_iload hX hl 5 rfl dL_law_699 ?_
  refine lv_iconst (v := 1) hX.1.1 hX.1.2.1 dL_law_701 rfl ?_
  refine lv_iadd hX.1.1 hX.1.2.1 dL_law_702 ?_
  refine rw_scr hX hR.2 hsc (k := I + 1) (nI_plus I 1) (by omega) dL_law_703 ?_
  refine rw_cVi hX hR pk_f8_reset (mc := 0) (ms := 0) ⟨rfl, rfl, (show 6 + 1 ≤ R.frames by omega), (show 8 + (3 + 11) + 64 * 6 ≤ R.locals by omega)⟩ (As := [.int (xs (I + 1))]) (rest := []) rfl (C_f8_reset l γ ad (xs (I + 1)) (hoi σ1 r) r2 σ2 hw8) gw_1180 gw_1181 gw_1182 (rs_recv hX hR 8 0 (C := RX7) (T := TX7) (N := 48) rfl (by decide) (Nat.le_of_ble_eq_true rfl) rfl) rfl hl.1 ca0 (Nat.le_of_ble_eq_true rfl) dL_law_704 ⟨by omega, by omega⟩ (fun H1 locs1 hR => ?_)
  refine rw_istore (i := 6) (lv' := [(6, .int r2), (5, .int (hk (fun e => if e = 1 then 1 else if e = 3 then 2 else 0) r)), (0, .ref b), (1, .ref (gS γ 7 0)), (2, .ref (gS γ 8 0)), (3, .ref (gS γ 3000 0)), (4, .int (nI I))]) hX hl (Nat.le_of_ble_eq_true rfl) rfl dL_law_707 (fun ls hl => ?_)
  refine rw_aload_n hX hl 4 rfl (Or.inr ⟨_, rfl⟩) dL_law_709 rfl ?_
  refine rw_cVi hX hR pk_f8_thrown (mc := 0) (ms := 0) ⟨rfl, rfl, (show 1 + 1 ≤ R.frames by omega), (show 8 + (1 + 11) + 64 * 1 ≤ R.locals by omega)⟩ (As := []) (rest := []) rfl (C_f8_thrown l γ ad σ2 _ hth) gw_1074 gw_1075 gw_1076 (rs_recv hX hR 8 0 (C := RX7) (T := TX7) (N := 48) rfl (by decide) (Nat.le_of_ble_eq_true rfl) rfl) rfl hl.1 ca0 (Nat.le_of_ble_eq_true rfl) dL_law_710 ⟨by omega, by omega⟩ (fun H1 locs1 hR => ?_)
  refine rw_iload hX hl 1 rfl dL_law_713 ?_
  refine lv_icmp_eq (x := hk (fun e => if e = 1 then 1 else if e = 3 then 2 else 0) r) (y := hk (fun e => if e = 1 then 1 else if e = 3 then 2 else 0) r) (tgt := 720) hX.1.1 hX.1.2.1 dL_law_715 (by decide) (fun c0 => ?_) (fun c0 => absurd rfl c0)
  refine rw_iload hX hl 1 rfl dL_law_720 ?_
  replace hl := lh_sub hl [2, 3, 4, 5, 6, 1, 0] rfl
  refine lv_if_ne (x := hk (fun e => if e = 1 then 1 else if e = 3 then 2 else 0) r) (tgt := 737) hX.1.1 hX.1.2.1 dL_law_722 (by decide) (fun c0 => ?_) (fun c0 => ?_)
  · refine lv_goto (tgt := 2230) hX.1.1 hX.1.2.1 dL_law_737 (by decide) ?_
    exact kk ad ls _ _ (lh_sub hl [0, 1, 2, 3, 4] rfl) hR
  have hv1 := hv c0
  refine rw_aload_n hX hl 3 rfl (Or.inr ⟨_, rfl⟩) dL_law_725 rfl ?_
  refine lv_iconst (v := 0) hX.1.1 hX.1.2.1 dL_law_726 rfl ?_
  refine rw_outld hX hR dL_law_727 ?_
  rw [hv1]
  refine rw_iload hX hl 6 rfl dL_law_728 ?_
  refine lv_i2l hX.1.1 hX.1.2.1 dL_law_730 rfl ?_
  refine W.lcmp hX.1.1 hX.1.2.1 dL_law_731 ?_
  rw [lg_self]
  refine lv_if_eq (x := 0) (tgt := 737) hX.1.1 hX.1.2.1 dL_law_732 (by decide) (fun c2 => ?_) (fun c2 => absurd rfl c2)
  refine lv_goto (tgt := 2230) hX.1.1 hX.1.2.1 dL_law_737 (by decide) ?_
  exact kk ad ls _ _ (lh_sub hl [0, 1, 2, 3, 4] rfl) hR
set_option maxHeartbeats 8000000 in
set_option maxRecDepth 100000 in
theorem LC_7 {p : Program} {l : Launch} (hfl : l.stackTraces = false) {e : Env} {R : Room} {s : State} {m : MethodId} {args : Array Value} {below : List Frame} {meth : Method} {c : Code} {H : Heap} {locs : List Loc} {cells slots : Nat} {Q : State → Prop} {γ : GT} {ad : Nat → Nat → Nat} {σ : St} {b L : Nat} {xs : Nat → Int32} {ls : Array Slot} (hX : CX γ p s m args c cL_law 7 RL) (hsc : SC γ s b L xs) (hRf : 100 ≤ R.frames ∧ 8000 ≤ R.locals) {fu I : Nat} (hI : I + 8 ≤ L) (hR : RS γ ad σ s H locs) (hl : lh ls 7 (lv7 γ b (nI I))) (hf : cells + 4 ≤ R.cells ∧ slots + 245 ≤ R.slots) {r : Except Nat Int32} {σ1 : St} (hw7 : f7_open fu (xs (I + 1)) σ = some (r, σ1)) (he : ∀ e, r = .error e → e = 1 ∨ e = 3) {r2 : Int32} {σ2 : St} (hw8 : f8_open fu (xs (I + 1)) (hoi σ1 r) = some (r2, σ2)) (hth : f8_thrown fu σ2 = some (hk (fun e => if e = 1 then 1 else if e = 3 then 2 else 0) r)) (hv : hk (fun e => if e = 1 then 1 else if e = 3 then 2 else 0) r = 0 → go σ2 = r2.toInt64)
    (kk : ∀ (ad : Nat → Nat → Nat) (ls : Array Slot) (H : Heap) (locs : List Loc), lh ls 7 (lv7 γ b (nI I)) → RS γ ad σ2 s H locs → W p l e R s m args below meth c H locs (cells + 4) (slots + 245) Q (F0 m 2230 ls [])) : W p l e R s m args below meth c H locs cells slots Q (F0 m 740 ls []) := by
  refine rw_aload_n hX hl 1 rfl (Or.inr ⟨_, rfl⟩) dL_law_740 rfl ?_
  refine rw_aload_n hX hl 0 rfl (Or.inr ⟨_, rfl⟩) dL_law_741 rfl ?_
  refine rw_iload hX hl 4 rfl dL_law_742 ?_
  refine lv_iconst (v := 1) hX.1.1 hX.1.2.1 dL_law_744 rfl ?_
  refine lv_iadd hX.1.1 hX.1.2.1 dL_law_745 ?_
  refine rw_scr hX hR.2 hsc (k := I + 1) (nI_plus I 1) (by omega) dL_law_746 ?_
  refine rw_aload_n hX hl 3 rfl (Or.inr ⟨_, rfl⟩) dL_law_747 rfl ?_
  refine rw_cSW hX hR (y := yL_open) (bytes := cL_open) (maxL := 4) (hh := [(0, 9, 12, 13), (0, 9, 15, 17)]) (n := 3) ⟨gw_0, gw_598, by decide, gw_597⟩ (rm := rmo 17 4 245) (mc := 4) (ms := 245) ⟨rfl, rfl, (show 17 + 1 ≤ R.frames by omega), (show 8 + (4 + 11) + 64 * 17 ≤ R.locals by omega)⟩ (As := [.ref (gS γ 7 0), .int (xs (I + 1)), .ref (gS γ 3000 0)]) (rest := []) rfl (L_open l hfl γ ad (xs (I + 1)) σ r σ1 hw7 he) gw_596 rfl hl.1 ca0 (Nat.le_of_ble_eq_true rfl) dL_law_748 hf (fun ad H1 locs1 hR => ?_)
  refine rw_istore (i := 5) (lv' := [(5, .int (hk (fun e => if e = 1 then 1 else if e = 3 then 2 else 0) r)), (0, .ref b), (1, .ref (gS γ 7 0)), (2, .ref (gS γ 8 0)), (3, .ref (gS γ 3000 0)), (4, .int (nI I))]) hX hl (Nat.le_of_ble_eq_true rfl) rfl dL_law_751 (fun ls hl => ?_)
  refine rw_aload_n hX hl 3 rfl (Or.inr ⟨_, rfl⟩) dL_law_753 rfl ?_
  refine rw_aload_n hX hl 1 rfl (Or.inr ⟨_, rfl⟩) dL_law_754 rfl ?_
  refine rw_iload hX hl 5 rfl dL_law_755 ?_
  refine lv_iconst (v := 1) hX.1.1 hX.1.2.1 dL_law_757 rfl ?_
  refine lv_iadd hX.1.1 hX.1.2.1 dL_law_758 ?_
  refine rw_scr hX hR.2 hsc (k := I + 1) (nI_plus I 1) (by omega) dL_law_759 ?_
  refine rw_cVi hX hR pk_f8_open (mc := 0) (ms := 0) ⟨rfl, rfl, (show 6 + 1 ≤ R.frames by omega), (show 8 + (2 + 11) + 64 * 6 ≤ R.locals by omega)⟩ (As := [.int (xs (I + 1))]) (rest := []) rfl (C_f8_open l γ ad (xs (I + 1)) (hoi σ1 r) r2 σ2 hw8) gw_1184 gw_1185 gw_1186 (rs_recv hX hR 8 0 (C := RX7) (T := TX7) (N := 48) rfl (by decide) (Nat.le_of_ble_eq_true rfl) rfl) rfl hl.1 ca0 (Nat.le_of_ble_eq_true rfl) dL_law_760 ⟨by omega, by omega⟩ (fun H1 locs1 hR => ?_)
  refine rw_istore (i := 6) (lv' := [(6, .int r2), (5, .int (hk (fun e => if e = 1 then 1 else if e = 3 then 2 else 0) r)), (0, .ref b), (1, .ref (gS γ 7 0)), (2, .ref (gS γ 8 0)), (3, .ref (gS γ 3000 0)), (4, .int (nI I))]) hX hl (Nat.le_of_ble_eq_true rfl) rfl dL_law_763 (fun ls hl => ?_)
  refine rw_aload_n hX hl 4 rfl (Or.inr ⟨_, rfl⟩) dL_law_765 rfl ?_
  refine rw_cVi hX hR pk_f8_thrown (mc := 0) (ms := 0) ⟨rfl, rfl, (show 1 + 1 ≤ R.frames by omega), (show 8 + (1 + 11) + 64 * 1 ≤ R.locals by omega)⟩ (As := []) (rest := []) rfl (C_f8_thrown l γ ad σ2 _ hth) gw_1074 gw_1075 gw_1076 (rs_recv hX hR 8 0 (C := RX7) (T := TX7) (N := 48) rfl (by decide) (Nat.le_of_ble_eq_true rfl) rfl) rfl hl.1 ca0 (Nat.le_of_ble_eq_true rfl) dL_law_766 ⟨by omega, by omega⟩ (fun H1 locs1 hR => ?_)
  refine rw_iload hX hl 1 rfl dL_law_769 ?_
  refine lv_icmp_eq (x := hk (fun e => if e = 1 then 1 else if e = 3 then 2 else 0) r) (y := hk (fun e => if e = 1 then 1 else if e = 3 then 2 else 0) r) (tgt := 776) hX.1.1 hX.1.2.1 dL_law_771 (by decide) (fun c0 => ?_) (fun c0 => absurd rfl c0)
  refine rw_iload hX hl 1 rfl dL_law_776 ?_
  replace hl := lh_sub hl [2, 3, 4, 5, 6, 1, 0] rfl
  refine lv_if_ne (x := hk (fun e => if e = 1 then 1 else if e = 3 then 2 else 0) r) (tgt := 793) hX.1.1 hX.1.2.1 dL_law_778 (by decide) (fun c0 => ?_) (fun c0 => ?_)
  · refine lv_goto (tgt := 2230) hX.1.1 hX.1.2.1 dL_law_793 (by decide) ?_
    exact kk ad ls _ _ (lh_sub hl [0, 1, 2, 3, 4] rfl) hR
  have hv1 := hv c0
  refine rw_aload_n hX hl 3 rfl (Or.inr ⟨_, rfl⟩) dL_law_781 rfl ?_
  refine lv_iconst (v := 0) hX.1.1 hX.1.2.1 dL_law_782 rfl ?_
  refine rw_outld hX hR dL_law_783 ?_
  rw [hv1]
  refine rw_iload hX hl 6 rfl dL_law_784 ?_
  refine lv_i2l hX.1.1 hX.1.2.1 dL_law_786 rfl ?_
  refine W.lcmp hX.1.1 hX.1.2.1 dL_law_787 ?_
  rw [lg_self]
  refine lv_if_eq (x := 0) (tgt := 793) hX.1.1 hX.1.2.1 dL_law_788 (by decide) (fun c2 => ?_) (fun c2 => absurd rfl c2)
  refine lv_goto (tgt := 2230) hX.1.1 hX.1.2.1 dL_law_793 (by decide) ?_
  exact kk ad ls _ _ (lh_sub hl [0, 1, 2, 3, 4] rfl) hR
set_option maxHeartbeats 8000000 in
set_option maxRecDepth 100000 in
theorem LC_8 {p : Program} {l : Launch} (hfl : l.stackTraces = false) {e : Env} {R : Room} {s : State} {m : MethodId} {args : Array Value} {below : List Frame} {meth : Method} {c : Code} {H : Heap} {locs : List Loc} {cells slots : Nat} {Q : State → Prop} {γ : GT} {ad : Nat → Nat → Nat} {σ : St} {b L : Nat} {xs : Nat → Int32} {ls : Array Slot} (hX : CX γ p s m args c cL_law 7 RL) (hsc : SC γ s b L xs) (hRf : 100 ≤ R.frames ∧ 8000 ≤ R.locals) {fu I : Nat} (hI : I + 8 ≤ L) (hR : RS γ ad σ s H locs) (hl : lh ls 7 (lv7 γ b (nI I))) (hf : cells + 2 ≤ R.cells ∧ slots + 12 ≤ R.slots) {r : Except Nat Bool} {σ1 : St} (hw7 : f7_close fu (xs (I + 1)) σ = some (r, σ1)) (he : ∀ e, r = .error e → e = 1 ∨ e = 3) {r2 : Bool} {σ2 : St} (hw8 : f8_close fu (xs (I + 1)) (hoz σ1 r) = some (r2, σ2)) (hth : f8_thrown fu σ2 = some (hk (fun e => if e = 1 then 1 else if e = 3 then 2 else 0) r)) (hv : hk (fun e => if e = 1 then 1 else if e = 3 then 2 else 0) r = 0 → go σ2 = (if r2 = true then 1 else 0))
    (kk : ∀ (ad : Nat → Nat → Nat) (ls : Array Slot) (H : Heap) (locs : List Loc), lh ls 7 (lv7 γ b (nI I)) → RS γ ad σ2 s H locs → W p l e R s m args below meth c H locs (cells + 2) (slots + 12) Q (F0 m 2230 ls [])) : W p l e R s m args below meth c H locs cells slots Q (F0 m 796 ls []) := by
  refine rw_aload_n hX hl 1 rfl (Or.inr ⟨_, rfl⟩) dL_law_796 rfl ?_
  refine rw_aload_n hX hl 0 rfl (Or.inr ⟨_, rfl⟩) dL_law_797 rfl ?_
  refine rw_iload hX hl 4 rfl dL_law_798 ?_
  refine lv_iconst (v := 1) hX.1.1 hX.1.2.1 dL_law_800 rfl ?_
  refine lv_iadd hX.1.1 hX.1.2.1 dL_law_801 ?_
  refine rw_scr hX hR.2 hsc (k := I + 1) (nI_plus I 1) (by omega) dL_law_802 ?_
  refine rw_aload_n hX hl 3 rfl (Or.inr ⟨_, rfl⟩) dL_law_803 rfl ?_
  refine rw_cSW hX hR (y := yL_close) (bytes := cL_close) (maxL := 4) (hh := [(0, 16, 19, 13), (0, 16, 22, 17)]) (n := 3) ⟨gw_0, gw_624, by decide, gw_623⟩ (rm := rmo 17 2 12) (mc := 2) (ms := 12) ⟨rfl, rfl, (show 17 + 1 ≤ R.frames by omega), (show 8 + (4 + 11) + 64 * 17 ≤ R.locals by omega)⟩ (As := [.ref (gS γ 7 0), .int (xs (I + 1)), .ref (gS γ 3000 0)]) (rest := []) rfl (L_close l hfl γ ad (xs (I + 1)) σ r σ1 hw7 he) gw_622 rfl hl.1 ca0 (Nat.le_of_ble_eq_true rfl) dL_law_804 hf (fun ad H1 locs1 hR => ?_)
  refine rw_istore (i := 5) (lv' := [(5, .int (hk (fun e => if e = 1 then 1 else if e = 3 then 2 else 0) r)), (0, .ref b), (1, .ref (gS γ 7 0)), (2, .ref (gS γ 8 0)), (3, .ref (gS γ 3000 0)), (4, .int (nI I))]) hX hl (Nat.le_of_ble_eq_true rfl) rfl dL_law_807 (fun ls hl => ?_)
  refine rw_aload_n hX hl 3 rfl (Or.inr ⟨_, rfl⟩) dL_law_809 rfl ?_
  refine rw_aload_n hX hl 1 rfl (Or.inr ⟨_, rfl⟩) dL_law_810 rfl ?_
  refine rw_iload hX hl 5 rfl dL_law_811 ?_
  refine lv_iconst (v := 1) hX.1.1 hX.1.2.1 dL_law_813 rfl ?_
  refine lv_iadd hX.1.1 hX.1.2.1 dL_law_814 ?_
  refine rw_scr hX hR.2 hsc (k := I + 1) (nI_plus I 1) (by omega) dL_law_815 ?_
  refine rw_cVi hX hR pk_f8_close (mc := 0) (ms := 0) ⟨rfl, rfl, (show 6 + 1 ≤ R.frames by omega), (show 8 + (4 + 11) + 64 * 6 ≤ R.locals by omega)⟩ (As := [.int (xs (I + 1))]) (rest := []) rfl (C_f8_close l γ ad (xs (I + 1)) (hoz σ1 r) r2 σ2 hw8) gw_1188 gw_1189 gw_1190 (rs_recv hX hR 8 0 (C := RX7) (T := TX7) (N := 48) rfl (by decide) (Nat.le_of_ble_eq_true rfl) rfl) rfl hl.1 ca0 (Nat.le_of_ble_eq_true rfl) dL_law_816 ⟨by omega, by omega⟩ (fun H1 locs1 hR => ?_)
  refine rw_istore (i := 6) (lv' := [(6, .int (b2i r2)), (5, .int (hk (fun e => if e = 1 then 1 else if e = 3 then 2 else 0) r)), (0, .ref b), (1, .ref (gS γ 7 0)), (2, .ref (gS γ 8 0)), (3, .ref (gS γ 3000 0)), (4, .int (nI I))]) hX hl (Nat.le_of_ble_eq_true rfl) rfl dL_law_819 (fun ls hl => ?_)
  refine rw_aload_n hX hl 4 rfl (Or.inr ⟨_, rfl⟩) dL_law_821 rfl ?_
  refine rw_cVi hX hR pk_f8_thrown (mc := 0) (ms := 0) ⟨rfl, rfl, (show 1 + 1 ≤ R.frames by omega), (show 8 + (1 + 11) + 64 * 1 ≤ R.locals by omega)⟩ (As := []) (rest := []) rfl (C_f8_thrown l γ ad σ2 _ hth) gw_1074 gw_1075 gw_1076 (rs_recv hX hR 8 0 (C := RX7) (T := TX7) (N := 48) rfl (by decide) (Nat.le_of_ble_eq_true rfl) rfl) rfl hl.1 ca0 (Nat.le_of_ble_eq_true rfl) dL_law_822 ⟨by omega, by omega⟩ (fun H1 locs1 hR => ?_)
  refine rw_iload hX hl 1 rfl dL_law_825 ?_
  refine lv_icmp_eq (x := hk (fun e => if e = 1 then 1 else if e = 3 then 2 else 0) r) (y := hk (fun e => if e = 1 then 1 else if e = 3 then 2 else 0) r) (tgt := 832) hX.1.1 hX.1.2.1 dL_law_827 (by decide) (fun c0 => ?_) (fun c0 => absurd rfl c0)
  refine rw_iload hX hl 1 rfl dL_law_832 ?_
  replace hl := lh_sub hl [2, 3, 4, 5, 6, 1, 0] rfl
  refine lv_if_ne (x := hk (fun e => if e = 1 then 1 else if e = 3 then 2 else 0) r) (tgt := 856) hX.1.1 hX.1.2.1 dL_law_834 (by decide) (fun c0 => ?_) (fun c0 => ?_)
  · refine lv_goto (tgt := 2230) hX.1.1 hX.1.2.1 dL_law_856 (by decide) ?_
    exact kk ad ls _ _ (lh_sub hl [0, 1, 2, 3, 4] rfl) hR
  have hv1 := hv c0
  refine rw_aload_n hX hl 3 rfl (Or.inr ⟨_, rfl⟩) dL_law_837 rfl ?_
  refine lv_iconst (v := 0) hX.1.1 hX.1.2.1 dL_law_838 rfl ?_
  refine rw_outld hX hR dL_law_839 ?_
  rw [hv1]
  refine rw_iload hX hl 6 rfl dL_law_840 ?_
  refine rw_ifeqZ (b := r2) (tgt := 849) hX dL_law_842 (by decide) (fun c1 => ?_) (fun c1 => ?_)
  · rw [if_neg c1]
    refine lv_lconst (v := 0) hX.1.1 hX.1.2.1 dL_law_849 rfl ?_
    refine W.lcmp hX.1.1 hX.1.2.1 dL_law_850 ?_
    rw [lg_self]
    refine lv_if_eq (x := 0) (tgt := 856) hX.1.1 hX.1.2.1 dL_law_851 (by decide) (fun c2 => ?_) (fun c2 => absurd rfl c2)
    refine lv_goto (tgt := 2230) hX.1.1 hX.1.2.1 dL_law_856 (by decide) ?_
    exact kk ad ls _ _ (lh_sub hl [0, 1, 2, 3, 4] rfl) hR
  · rw [if_pos c1]
    refine lv_lconst (v := 1) hX.1.1 hX.1.2.1 dL_law_845 rfl ?_
    refine lv_goto (tgt := 850) hX.1.1 hX.1.2.1 dL_law_846 (by decide) ?_
    refine W.lcmp hX.1.1 hX.1.2.1 dL_law_850 ?_
    rw [lg_self]
    refine lv_if_eq (x := 0) (tgt := 856) hX.1.1 hX.1.2.1 dL_law_851 (by decide) (fun c2 => ?_) (fun c2 => absurd rfl c2)
    refine lv_goto (tgt := 2230) hX.1.1 hX.1.2.1 dL_law_856 (by decide) ?_
    exact kk ad ls _ _ (lh_sub hl [0, 1, 2, 3, 4] rfl) hR
set_option maxHeartbeats 8000000 in
set_option maxRecDepth 100000 in
theorem LC_9 {p : Program} {l : Launch} (hfl : l.stackTraces = false) {e : Env} {R : Room} {s : State} {m : MethodId} {args : Array Value} {below : List Frame} {meth : Method} {c : Code} {H : Heap} {locs : List Loc} {cells slots : Nat} {Q : State → Prop} {γ : GT} {ad : Nat → Nat → Nat} {σ : St} {b L : Nat} {xs : Nat → Int32} {ls : Array Slot} (hX : CX γ p s m args c cL_law 7 RL) (hsc : SC γ s b L xs) (hRf : 100 ≤ R.frames ∧ 8000 ≤ R.locals) {fu I : Nat} (hI : I + 8 ≤ L) (hR : RS γ ad σ s H locs) (hl : lh ls 7 (lv7 γ b (nI I))) (hf : cells + 5 ≤ R.cells ∧ slots + 251 ≤ R.slots) {r : Except Nat Int32} {σ1 : St} (hw7 : f7_call fu (xs (I + 1)) (xs (I + 2)) σ = some (r, σ1)) (he : ∀ e, r = .error e → e = 1 ∨ e = 2 ∨ e = 3) {r2 : Int32} {σ2 : St} (hw8 : f8_call fu (xs (I + 1)) (xs (I + 2)) (hoi σ1 r) = some (r2, σ2)) (hth : f8_thrown fu σ2 = some (hk (fun e => if e = 1 then 1 else if e = 2 then 2 else if e = 3 then 3 else 0) r)) (hv : hk (fun e => if e = 1 then 1 else if e = 2 then 2 else if e = 3 then 3 else 0) r = 0 → go σ2 = r2.toInt64)
    (kk : ∀ (ad : Nat → Nat → Nat) (ls : Array Slot) (H : Heap) (locs : List Loc), lh ls 7 (lv7 γ b (nI I)) → RS γ ad σ2 s H locs → W p l e R s m args below meth c H locs (cells + 5) (slots + 251) Q (F0 m 2230 ls [])) : W p l e R s m args below meth c H locs cells slots Q (F0 m 859 ls []) := by
  refine rw_aload_n hX hl 1 rfl (Or.inr ⟨_, rfl⟩) dL_law_859 rfl ?_
  refine rw_aload_n hX hl 0 rfl (Or.inr ⟨_, rfl⟩) dL_law_860 rfl ?_
  refine rw_iload hX hl 4 rfl dL_law_861 ?_
  refine lv_iconst (v := 1) hX.1.1 hX.1.2.1 dL_law_863 rfl ?_
  refine lv_iadd hX.1.1 hX.1.2.1 dL_law_864 ?_
  refine rw_scr hX hR.2 hsc (k := I + 1) (nI_plus I 1) (by omega) dL_law_865 ?_
  refine rw_aload_n hX hl 0 rfl (Or.inr ⟨_, rfl⟩) dL_law_866 rfl ?_
  refine rw_iload hX hl 4 rfl dL_law_867 ?_
  refine lv_iconst (v := 2) hX.1.1 hX.1.2.1 dL_law_869 rfl ?_
  refine lv_iadd hX.1.1 hX.1.2.1 dL_law_870 ?_
  refine rw_scr hX hR.2 hsc (k := I + 2) (nI_plus I 2) (by omega) dL_law_871 ?_
  refine rw_aload_n hX hl 3 rfl (Or.inr ⟨_, rfl⟩) dL_law_872 rfl ?_
  refine rw_cSW hX hR (y := yL_call) (bytes := cL_call) (maxL := 5) (hh := [(0, 10, 13, 13), (0, 10, 17, 15), (0, 10, 21, 17)]) (n := 4) ⟨gw_0, gw_637, by decide, gw_636⟩ (rm := rmo 83 5 251) (mc := 5) (ms := 251) ⟨rfl, rfl, (show 83 + 1 ≤ R.frames by omega), (show 8 + (5 + 11) + 64 * 83 ≤ R.locals by omega)⟩ (As := [.ref (gS γ 7 0), .int (xs (I + 1)), .int (xs (I + 2)), .ref (gS γ 3000 0)]) (rest := []) rfl (L_call l hfl γ ad (xs (I + 1)) (xs (I + 2)) σ r σ1 hw7 he) gw_635 rfl hl.1 ca0 (Nat.le_of_ble_eq_true rfl) dL_law_873 hf (fun ad H1 locs1 hR => ?_)
  refine rw_istore (i := 5) (lv' := [(5, .int (hk (fun e => if e = 1 then 1 else if e = 2 then 2 else if e = 3 then 3 else 0) r)), (0, .ref b), (1, .ref (gS γ 7 0)), (2, .ref (gS γ 8 0)), (3, .ref (gS γ 3000 0)), (4, .int (nI I))]) hX hl (Nat.le_of_ble_eq_true rfl) rfl dL_law_876 (fun ls hl => ?_)
  refine rw_aload_n hX hl 3 rfl (Or.inr ⟨_, rfl⟩) dL_law_878 rfl ?_
  refine rw_aload_n hX hl 1 rfl (Or.inr ⟨_, rfl⟩) dL_law_879 rfl ?_
  refine rw_iload hX hl 5 rfl dL_law_880 ?_
  refine lv_iconst (v := 1) hX.1.1 hX.1.2.1 dL_law_882 rfl ?_
  refine lv_iadd hX.1.1 hX.1.2.1 dL_law_883 ?_
  refine rw_scr hX hR.2 hsc (k := I + 1) (nI_plus I 1) (by omega) dL_law_884 ?_
  refine rw_aload_n hX hl 1 rfl (Or.inr ⟨_, rfl⟩) dL_law_885 rfl ?_
  refine rw_iload hX hl 5 rfl dL_law_886 ?_
  refine lv_iconst (v := 2) hX.1.1 hX.1.2.1 dL_law_888 rfl ?_
  refine lv_iadd hX.1.1 hX.1.2.1 dL_law_889 ?_
  refine rw_scr hX hR.2 hsc (k := I + 2) (nI_plus I 2) (by omega) dL_law_890 ?_
  refine rw_cVi hX hR pk_f8_call (mc := 0) (ms := 0) ⟨rfl, rfl, (show 6 + 1 ≤ R.frames by omega), (show 8 + (3 + 11) + 64 * 6 ≤ R.locals by omega)⟩ (As := [.int (xs (I + 1)), .int (xs (I + 2))]) (rest := []) rfl (C_f8_call l γ ad (xs (I + 1)) (xs (I + 2)) (hoi σ1 r) r2 σ2 hw8) gw_1200 gw_1201 gw_1202 (rs_recv hX hR 8 0 (C := RX7) (T := TX7) (N := 48) rfl (by decide) (Nat.le_of_ble_eq_true rfl) rfl) rfl hl.1 ca0 (Nat.le_of_ble_eq_true rfl) dL_law_891 ⟨by omega, by omega⟩ (fun H1 locs1 hR => ?_)
  refine rw_istore (i := 6) (lv' := [(6, .int r2), (5, .int (hk (fun e => if e = 1 then 1 else if e = 2 then 2 else if e = 3 then 3 else 0) r)), (0, .ref b), (1, .ref (gS γ 7 0)), (2, .ref (gS γ 8 0)), (3, .ref (gS γ 3000 0)), (4, .int (nI I))]) hX hl (Nat.le_of_ble_eq_true rfl) rfl dL_law_894 (fun ls hl => ?_)
  refine rw_aload_n hX hl 4 rfl (Or.inr ⟨_, rfl⟩) dL_law_896 rfl ?_
  refine rw_cVi hX hR pk_f8_thrown (mc := 0) (ms := 0) ⟨rfl, rfl, (show 1 + 1 ≤ R.frames by omega), (show 8 + (1 + 11) + 64 * 1 ≤ R.locals by omega)⟩ (As := []) (rest := []) rfl (C_f8_thrown l γ ad σ2 _ hth) gw_1074 gw_1075 gw_1076 (rs_recv hX hR 8 0 (C := RX7) (T := TX7) (N := 48) rfl (by decide) (Nat.le_of_ble_eq_true rfl) rfl) rfl hl.1 ca0 (Nat.le_of_ble_eq_true rfl) dL_law_897 ⟨by omega, by omega⟩ (fun H1 locs1 hR => ?_)
  refine rw_iload hX hl 1 rfl dL_law_900 ?_
  refine lv_icmp_eq (x := hk (fun e => if e = 1 then 1 else if e = 2 then 2 else if e = 3 then 3 else 0) r) (y := hk (fun e => if e = 1 then 1 else if e = 2 then 2 else if e = 3 then 3 else 0) r) (tgt := 907) hX.1.1 hX.1.2.1 dL_law_902 (by decide) (fun c0 => ?_) (fun c0 => absurd rfl c0)
  refine rw_iload hX hl 1 rfl dL_law_907 ?_
  replace hl := lh_sub hl [2, 3, 4, 5, 6, 1, 0] rfl
  refine lv_if_ne (x := hk (fun e => if e = 1 then 1 else if e = 2 then 2 else if e = 3 then 3 else 0) r) (tgt := 924) hX.1.1 hX.1.2.1 dL_law_909 (by decide) (fun c0 => ?_) (fun c0 => ?_)
  · refine lv_goto (tgt := 2230) hX.1.1 hX.1.2.1 dL_law_924 (by decide) ?_
    exact kk ad ls _ _ (lh_sub hl [0, 1, 2, 3, 4] rfl) hR
  have hv1 := hv c0
  refine rw_aload_n hX hl 3 rfl (Or.inr ⟨_, rfl⟩) dL_law_912 rfl ?_
  refine lv_iconst (v := 0) hX.1.1 hX.1.2.1 dL_law_913 rfl ?_
  refine rw_outld hX hR dL_law_914 ?_
  rw [hv1]
  refine rw_iload hX hl 6 rfl dL_law_915 ?_
  refine lv_i2l hX.1.1 hX.1.2.1 dL_law_917 rfl ?_
  refine W.lcmp hX.1.1 hX.1.2.1 dL_law_918 ?_
  rw [lg_self]
  refine lv_if_eq (x := 0) (tgt := 924) hX.1.1 hX.1.2.1 dL_law_919 (by decide) (fun c2 => ?_) (fun c2 => absurd rfl c2)
  refine lv_goto (tgt := 2230) hX.1.1 hX.1.2.1 dL_law_924 (by decide) ?_
  exact kk ad ls _ _ (lh_sub hl [0, 1, 2, 3, 4] rfl) hR
set_option maxHeartbeats 8000000 in
set_option maxRecDepth 100000 in
theorem LC_10 {p : Program} {l : Launch} (hfl : l.stackTraces = false) {e : Env} {R : Room} {s : State} {m : MethodId} {args : Array Value} {below : List Frame} {meth : Method} {c : Code} {H : Heap} {locs : List Loc} {cells slots : Nat} {Q : State → Prop} {γ : GT} {ad : Nat → Nat → Nat} {σ : St} {b L : Nat} {xs : Nat → Int32} {ls : Array Slot} (hX : CX γ p s m args c cL_law 7 RL) (hsc : SC γ s b L xs) (hRf : 100 ≤ R.frames ∧ 8000 ≤ R.locals) {fu I : Nat} (hI : I + 8 ≤ L) (hR : RS γ ad σ s H locs) (hl : lh ls 7 (lv7 γ b (nI I))) (hf : cells + 3 ≤ R.cells ∧ slots + 18 ≤ R.slots) {r : Except Nat Int32} {σ1 : St} (hw7 : f7_set fu (xs (I + 1)) (xs (I + 2)) σ = some (r, σ1)) (he : ∀ e, r = .error e → e = 1 ∨ e = 2 ∨ e = 3) {r2 : Int32} {σ2 : St} (hw8 : f8_set fu (xs (I + 1)) (xs (I + 2)) (hoi σ1 r) = some (r2, σ2)) (hth : f8_thrown fu σ2 = some (hk (fun e => if e = 1 then 1 else if e = 2 then 2 else if e = 3 then 3 else 0) r)) (hv : hk (fun e => if e = 1 then 1 else if e = 2 then 2 else if e = 3 then 3 else 0) r = 0 → go σ2 = r2.toInt64)
    (kk : ∀ (ad : Nat → Nat → Nat) (ls : Array Slot) (H : Heap) (locs : List Loc), lh ls 7 (lv7 γ b (nI I)) → RS γ ad σ2 s H locs → W p l e R s m args below meth c H locs (cells + 3) (slots + 18) Q (F0 m 2230 ls [])) : W p l e R s m args below meth c H locs cells slots Q (F0 m 927 ls []) := by
  refine rw_aload_n hX hl 1 rfl (Or.inr ⟨_, rfl⟩) dL_law_927 rfl ?_
  refine rw_aload_n hX hl 0 rfl (Or.inr ⟨_, rfl⟩) dL_law_928 rfl ?_
  refine rw_iload hX hl 4 rfl dL_law_929 ?_
  refine lv_iconst (v := 1) hX.1.1 hX.1.2.1 dL_law_931 rfl ?_
  refine lv_iadd hX.1.1 hX.1.2.1 dL_law_932 ?_
  refine rw_scr hX hR.2 hsc (k := I + 1) (nI_plus I 1) (by omega) dL_law_933 ?_
  refine rw_aload_n hX hl 0 rfl (Or.inr ⟨_, rfl⟩) dL_law_934 rfl ?_
  refine rw_iload hX hl 4 rfl dL_law_935 ?_
  refine lv_iconst (v := 2) hX.1.1 hX.1.2.1 dL_law_937 rfl ?_
  refine lv_iadd hX.1.1 hX.1.2.1 dL_law_938 ?_
  refine rw_scr hX hR.2 hsc (k := I + 2) (nI_plus I 2) (by omega) dL_law_939 ?_
  refine rw_aload_n hX hl 3 rfl (Or.inr ⟨_, rfl⟩) dL_law_940 rfl ?_
  refine rw_cSW hX hR (y := yL_set) (bytes := cL_set) (maxL := 5) (hh := [(0, 10, 13, 13), (0, 10, 17, 15), (0, 10, 21, 17)]) (n := 4) ⟨gw_0, gw_675, by decide, gw_674⟩ (rm := rmo 83 3 18) (mc := 3) (ms := 18) ⟨rfl, rfl, (show 83 + 1 ≤ R.frames by omega), (show 8 + (5 + 11) + 64 * 83 ≤ R.locals by omega)⟩ (As := [.ref (gS γ 7 0), .int (xs (I + 1)), .int (xs (I + 2)), .ref (gS γ 3000 0)]) (rest := []) rfl (L_set l hfl γ ad (xs (I + 1)) (xs (I + 2)) σ r σ1 hw7 he) gw_673 rfl hl.1 ca0 (Nat.le_of_ble_eq_true rfl) dL_law_941 hf (fun ad H1 locs1 hR => ?_)
  refine rw_istore (i := 5) (lv' := [(5, .int (hk (fun e => if e = 1 then 1 else if e = 2 then 2 else if e = 3 then 3 else 0) r)), (0, .ref b), (1, .ref (gS γ 7 0)), (2, .ref (gS γ 8 0)), (3, .ref (gS γ 3000 0)), (4, .int (nI I))]) hX hl (Nat.le_of_ble_eq_true rfl) rfl dL_law_944 (fun ls hl => ?_)
  refine rw_aload_n hX hl 3 rfl (Or.inr ⟨_, rfl⟩) dL_law_946 rfl ?_
  refine rw_aload_n hX hl 1 rfl (Or.inr ⟨_, rfl⟩) dL_law_947 rfl ?_
  refine rw_iload hX hl 5 rfl dL_law_948 ?_
  refine lv_iconst (v := 1) hX.1.1 hX.1.2.1 dL_law_950 rfl ?_
  refine lv_iadd hX.1.1 hX.1.2.1 dL_law_951 ?_
  refine rw_scr hX hR.2 hsc (k := I + 1) (nI_plus I 1) (by omega) dL_law_952 ?_
  refine rw_aload_n hX hl 1 rfl (Or.inr ⟨_, rfl⟩) dL_law_953 rfl ?_
  refine rw_iload hX hl 5 rfl dL_law_954 ?_
  refine lv_iconst (v := 2) hX.1.1 hX.1.2.1 dL_law_956 rfl ?_
  refine lv_iadd hX.1.1 hX.1.2.1 dL_law_957 ?_
  refine rw_scr hX hR.2 hsc (k := I + 2) (nI_plus I 2) (by omega) dL_law_958 ?_
  refine rw_cVi hX hR pk_f8_set (mc := 0) (ms := 0) ⟨rfl, rfl, (show 6 + 1 ≤ R.frames by omega), (show 8 + (5 + 11) + 64 * 6 ≤ R.locals by omega)⟩ (As := [.int (xs (I + 1)), .int (xs (I + 2))]) (rest := []) rfl (C_f8_set l γ ad (xs (I + 1)) (xs (I + 2)) (hoi σ1 r) r2 σ2 hw8) gw_1212 gw_1213 gw_1214 (rs_recv hX hR 8 0 (C := RX7) (T := TX7) (N := 48) rfl (by decide) (Nat.le_of_ble_eq_true rfl) rfl) rfl hl.1 ca0 (Nat.le_of_ble_eq_true rfl) dL_law_959 ⟨by omega, by omega⟩ (fun H1 locs1 hR => ?_)
  refine rw_istore (i := 6) (lv' := [(6, .int r2), (5, .int (hk (fun e => if e = 1 then 1 else if e = 2 then 2 else if e = 3 then 3 else 0) r)), (0, .ref b), (1, .ref (gS γ 7 0)), (2, .ref (gS γ 8 0)), (3, .ref (gS γ 3000 0)), (4, .int (nI I))]) hX hl (Nat.le_of_ble_eq_true rfl) rfl dL_law_962 (fun ls hl => ?_)
  refine rw_aload_n hX hl 4 rfl (Or.inr ⟨_, rfl⟩) dL_law_964 rfl ?_
  refine rw_cVi hX hR pk_f8_thrown (mc := 0) (ms := 0) ⟨rfl, rfl, (show 1 + 1 ≤ R.frames by omega), (show 8 + (1 + 11) + 64 * 1 ≤ R.locals by omega)⟩ (As := []) (rest := []) rfl (C_f8_thrown l γ ad σ2 _ hth) gw_1074 gw_1075 gw_1076 (rs_recv hX hR 8 0 (C := RX7) (T := TX7) (N := 48) rfl (by decide) (Nat.le_of_ble_eq_true rfl) rfl) rfl hl.1 ca0 (Nat.le_of_ble_eq_true rfl) dL_law_965 ⟨by omega, by omega⟩ (fun H1 locs1 hR => ?_)
  refine rw_iload hX hl 1 rfl dL_law_968 ?_
  refine lv_icmp_eq (x := hk (fun e => if e = 1 then 1 else if e = 2 then 2 else if e = 3 then 3 else 0) r) (y := hk (fun e => if e = 1 then 1 else if e = 2 then 2 else if e = 3 then 3 else 0) r) (tgt := 975) hX.1.1 hX.1.2.1 dL_law_970 (by decide) (fun c0 => ?_) (fun c0 => absurd rfl c0)
  refine rw_iload hX hl 1 rfl dL_law_975 ?_
  replace hl := lh_sub hl [2, 3, 4, 5, 6, 1, 0] rfl
  refine lv_if_ne (x := hk (fun e => if e = 1 then 1 else if e = 2 then 2 else if e = 3 then 3 else 0) r) (tgt := 992) hX.1.1 hX.1.2.1 dL_law_977 (by decide) (fun c0 => ?_) (fun c0 => ?_)
  · refine lv_goto (tgt := 2230) hX.1.1 hX.1.2.1 dL_law_992 (by decide) ?_
    exact kk ad ls _ _ (lh_sub hl [0, 1, 2, 3, 4] rfl) hR
  have hv1 := hv c0
  refine rw_aload_n hX hl 3 rfl (Or.inr ⟨_, rfl⟩) dL_law_980 rfl ?_
  refine lv_iconst (v := 0) hX.1.1 hX.1.2.1 dL_law_981 rfl ?_
  refine rw_outld hX hR dL_law_982 ?_
  rw [hv1]
  refine rw_iload hX hl 6 rfl dL_law_983 ?_
  refine lv_i2l hX.1.1 hX.1.2.1 dL_law_985 rfl ?_
  refine W.lcmp hX.1.1 hX.1.2.1 dL_law_986 ?_
  rw [lg_self]
  refine lv_if_eq (x := 0) (tgt := 992) hX.1.1 hX.1.2.1 dL_law_987 (by decide) (fun c2 => ?_) (fun c2 => absurd rfl c2)
  refine lv_goto (tgt := 2230) hX.1.1 hX.1.2.1 dL_law_992 (by decide) ?_
  exact kk ad ls _ _ (lh_sub hl [0, 1, 2, 3, 4] rfl) hR
set_option maxHeartbeats 8000000 in
set_option maxRecDepth 100000 in
theorem LC_11 {p : Program} {l : Launch} (hfl : l.stackTraces = false) {e : Env} {R : Room} {s : State} {m : MethodId} {args : Array Value} {below : List Frame} {meth : Method} {c : Code} {H : Heap} {locs : List Loc} {cells slots : Nat} {Q : State → Prop} {γ : GT} {ad : Nat → Nat → Nat} {σ : St} {b L : Nat} {xs : Nat → Int32} {ls : Array Slot} (hX : CX γ p s m args c cL_law 7 RL) (hsc : SC γ s b L xs) (hRf : 100 ≤ R.frames ∧ 8000 ≤ R.locals) {fu I : Nat} (hI : I + 8 ≤ L) (hR : RS γ ad σ s H locs) (hl : lh ls 7 (lv7 γ b (nI I))) (hf : cells + 2 ≤ R.cells ∧ slots + 12 ≤ R.slots) {r : Except Nat Int32} {σ1 : St} (hw7 : f7_get fu (xs (I + 1)) σ = some (r, σ1)) (he : ∀ e, r = .error e → e = 1 ∨ e = 3) {r2 : Int32} {σ2 : St} (hw8 : f8_get fu (xs (I + 1)) (hoi σ1 r) = some (r2, σ2)) (hth : f8_thrown fu σ2 = some (hk (fun e => if e = 1 then 1 else if e = 3 then 2 else 0) r)) (hv : hk (fun e => if e = 1 then 1 else if e = 3 then 2 else 0) r = 0 → go σ2 = r2.toInt64)
    (kk : ∀ (ad : Nat → Nat → Nat) (ls : Array Slot) (H : Heap) (locs : List Loc), lh ls 7 (lv7 γ b (nI I)) → RS γ ad σ2 s H locs → W p l e R s m args below meth c H locs (cells + 2) (slots + 12) Q (F0 m 2230 ls [])) : W p l e R s m args below meth c H locs cells slots Q (F0 m 995 ls []) := by
  refine rw_aload_n hX hl 1 rfl (Or.inr ⟨_, rfl⟩) dL_law_995 rfl ?_
  refine rw_aload_n hX hl 0 rfl (Or.inr ⟨_, rfl⟩) dL_law_996 rfl ?_
  refine rw_iload hX hl 4 rfl dL_law_997 ?_
  refine lv_iconst (v := 1) hX.1.1 hX.1.2.1 dL_law_999 rfl ?_
  refine lv_iadd hX.1.1 hX.1.2.1 dL_law_1000 ?_
  refine rw_scr hX hR.2 hsc (k := I + 1) (nI_plus I 1) (by omega) dL_law_1001 ?_
  refine rw_aload_n hX hl 3 rfl (Or.inr ⟨_, rfl⟩) dL_law_1002 rfl ?_
  refine rw_cSW hX hR (y := yL_get) (bytes := cL_get) (maxL := 4) (hh := [(0, 9, 12, 13), (0, 9, 15, 17)]) (n := 3) ⟨gw_0, gw_684, by decide, gw_683⟩ (rm := rmo 83 2 12) (mc := 2) (ms := 12) ⟨rfl, rfl, (show 83 + 1 ≤ R.frames by omega), (show 8 + (4 + 11) + 64 * 83 ≤ R.locals by omega)⟩ (As := [.ref (gS γ 7 0), .int (xs (I + 1)), .ref (gS γ 3000 0)]) (rest := []) rfl (L_get l hfl γ ad (xs (I + 1)) σ r σ1 hw7 he) gw_682 rfl hl.1 ca0 (Nat.le_of_ble_eq_true rfl) dL_law_1003 hf (fun ad H1 locs1 hR => ?_)
  refine rw_istore (i := 5) (lv' := [(5, .int (hk (fun e => if e = 1 then 1 else if e = 3 then 2 else 0) r)), (0, .ref b), (1, .ref (gS γ 7 0)), (2, .ref (gS γ 8 0)), (3, .ref (gS γ 3000 0)), (4, .int (nI I))]) hX hl (Nat.le_of_ble_eq_true rfl) rfl dL_law_1006 (fun ls hl => ?_)
  refine rw_aload_n hX hl 3 rfl (Or.inr ⟨_, rfl⟩) dL_law_1008 rfl ?_
  refine rw_aload_n hX hl 1 rfl (Or.inr ⟨_, rfl⟩) dL_law_1009 rfl ?_
  refine rw_iload hX hl 5 rfl dL_law_1010 ?_
  refine lv_iconst (v := 1) hX.1.1 hX.1.2.1 dL_law_1012 rfl ?_
  refine lv_iadd hX.1.1 hX.1.2.1 dL_law_1013 ?_
  refine rw_scr hX hR.2 hsc (k := I + 1) (nI_plus I 1) (by omega) dL_law_1014 ?_
  refine rw_cVi hX hR pk_f8_get (mc := 0) (ms := 0) ⟨rfl, rfl, (show 6 + 1 ≤ R.frames by omega), (show 8 + (2 + 11) + 64 * 6 ≤ R.locals by omega)⟩ (As := [.int (xs (I + 1))]) (rest := []) rfl (C_f8_get l γ ad (xs (I + 1)) (hoi σ1 r) r2 σ2 hw8) gw_1216 gw_1217 gw_1218 (rs_recv hX hR 8 0 (C := RX7) (T := TX7) (N := 48) rfl (by decide) (Nat.le_of_ble_eq_true rfl) rfl) rfl hl.1 ca0 (Nat.le_of_ble_eq_true rfl) dL_law_1015 ⟨by omega, by omega⟩ (fun H1 locs1 hR => ?_)
  refine rw_istore (i := 6) (lv' := [(6, .int r2), (5, .int (hk (fun e => if e = 1 then 1 else if e = 3 then 2 else 0) r)), (0, .ref b), (1, .ref (gS γ 7 0)), (2, .ref (gS γ 8 0)), (3, .ref (gS γ 3000 0)), (4, .int (nI I))]) hX hl (Nat.le_of_ble_eq_true rfl) rfl dL_law_1018 (fun ls hl => ?_)
  refine rw_aload_n hX hl 4 rfl (Or.inr ⟨_, rfl⟩) dL_law_1020 rfl ?_
  refine rw_cVi hX hR pk_f8_thrown (mc := 0) (ms := 0) ⟨rfl, rfl, (show 1 + 1 ≤ R.frames by omega), (show 8 + (1 + 11) + 64 * 1 ≤ R.locals by omega)⟩ (As := []) (rest := []) rfl (C_f8_thrown l γ ad σ2 _ hth) gw_1074 gw_1075 gw_1076 (rs_recv hX hR 8 0 (C := RX7) (T := TX7) (N := 48) rfl (by decide) (Nat.le_of_ble_eq_true rfl) rfl) rfl hl.1 ca0 (Nat.le_of_ble_eq_true rfl) dL_law_1021 ⟨by omega, by omega⟩ (fun H1 locs1 hR => ?_)
  refine rw_iload hX hl 1 rfl dL_law_1024 ?_
  refine lv_icmp_eq (x := hk (fun e => if e = 1 then 1 else if e = 3 then 2 else 0) r) (y := hk (fun e => if e = 1 then 1 else if e = 3 then 2 else 0) r) (tgt := 1031) hX.1.1 hX.1.2.1 dL_law_1026 (by decide) (fun c0 => ?_) (fun c0 => absurd rfl c0)
  refine rw_iload hX hl 1 rfl dL_law_1031 ?_
  replace hl := lh_sub hl [2, 3, 4, 5, 6, 1, 0] rfl
  refine lv_if_ne (x := hk (fun e => if e = 1 then 1 else if e = 3 then 2 else 0) r) (tgt := 1048) hX.1.1 hX.1.2.1 dL_law_1033 (by decide) (fun c0 => ?_) (fun c0 => ?_)
  · refine lv_goto (tgt := 2230) hX.1.1 hX.1.2.1 dL_law_1048 (by decide) ?_
    exact kk ad ls _ _ (lh_sub hl [0, 1, 2, 3, 4] rfl) hR
  have hv1 := hv c0
  refine rw_aload_n hX hl 3 rfl (Or.inr ⟨_, rfl⟩) dL_law_1036 rfl ?_
  refine lv_iconst (v := 0) hX.1.1 hX.1.2.1 dL_law_1037 rfl ?_
  refine rw_outld hX hR dL_law_1038 ?_
  rw [hv1]
  refine rw_iload hX hl 6 rfl dL_law_1039 ?_
  refine lv_i2l hX.1.1 hX.1.2.1 dL_law_1041 rfl ?_
  refine W.lcmp hX.1.1 hX.1.2.1 dL_law_1042 ?_
  rw [lg_self]
  refine lv_if_eq (x := 0) (tgt := 1048) hX.1.1 hX.1.2.1 dL_law_1043 (by decide) (fun c2 => ?_) (fun c2 => absurd rfl c2)
  refine lv_goto (tgt := 2230) hX.1.1 hX.1.2.1 dL_law_1048 (by decide) ?_
  exact kk ad ls _ _ (lh_sub hl [0, 1, 2, 3, 4] rfl) hR
set_option maxHeartbeats 8000000 in
set_option maxRecDepth 100000 in
theorem LC_12 {p : Program} {l : Launch} (hfl : l.stackTraces = false) {e : Env} {R : Room} {s : State} {m : MethodId} {args : Array Value} {below : List Frame} {meth : Method} {c : Code} {H : Heap} {locs : List Loc} {cells slots : Nat} {Q : State → Prop} {γ : GT} {ad : Nat → Nat → Nat} {σ : St} {b L : Nat} {xs : Nat → Int32} {ls : Array Slot} (hX : CX γ p s m args c cL_law 7 RL) (hsc : SC γ s b L xs) (hRf : 100 ≤ R.frames ∧ 8000 ≤ R.locals) {fu I : Nat} (hI : I + 8 ≤ L) (hR : RS γ ad σ s H locs) (hl : lh ls 7 (lv7 γ b (nI I))) (hf : cells + 4 ≤ R.cells ∧ slots + 24 ≤ R.slots) {r : Except Nat Int32} {σ1 : St} (hw7 : f7_map fu (xs (I + 1)) (xs (I + 2)) σ = some (r, σ1)) (he : ∀ e, r = .error e → e = 1 ∨ e = 2 ∨ e = 3) {r2 : Int32} {σ2 : St} (hw8 : f8_map fu (xs (I + 1)) (xs (I + 2)) (hoi σ1 r) = some (r2, σ2)) (hth : f8_thrown fu σ2 = some (hk (fun e => if e = 1 then 1 else if e = 2 then 2 else if e = 3 then 3 else 0) r)) (hv : hk (fun e => if e = 1 then 1 else if e = 2 then 2 else if e = 3 then 3 else 0) r = 0 → go σ2 = r2.toInt64)
    (kk : ∀ (ad : Nat → Nat → Nat) (ls : Array Slot) (H : Heap) (locs : List Loc), lh ls 7 (lv7 γ b (nI I)) → RS γ ad σ2 s H locs → W p l e R s m args below meth c H locs (cells + 4) (slots + 24) Q (F0 m 2230 ls [])) : W p l e R s m args below meth c H locs cells slots Q (F0 m 1051 ls []) := by
  refine rw_aload_n hX hl 1 rfl (Or.inr ⟨_, rfl⟩) dL_law_1051 rfl ?_
  refine rw_aload_n hX hl 0 rfl (Or.inr ⟨_, rfl⟩) dL_law_1052 rfl ?_
  refine rw_iload hX hl 4 rfl dL_law_1053 ?_
  refine lv_iconst (v := 1) hX.1.1 hX.1.2.1 dL_law_1055 rfl ?_
  refine lv_iadd hX.1.1 hX.1.2.1 dL_law_1056 ?_
  refine rw_scr hX hR.2 hsc (k := I + 1) (nI_plus I 1) (by omega) dL_law_1057 ?_
  refine rw_aload_n hX hl 0 rfl (Or.inr ⟨_, rfl⟩) dL_law_1058 rfl ?_
  refine rw_iload hX hl 4 rfl dL_law_1059 ?_
  refine lv_iconst (v := 2) hX.1.1 hX.1.2.1 dL_law_1061 rfl ?_
  refine lv_iadd hX.1.1 hX.1.2.1 dL_law_1062 ?_
  refine rw_scr hX hR.2 hsc (k := I + 2) (nI_plus I 2) (by omega) dL_law_1063 ?_
  refine rw_aload_n hX hl 3 rfl (Or.inr ⟨_, rfl⟩) dL_law_1064 rfl ?_
  refine rw_cSW hX hR (y := yL_map) (bytes := cL_map) (maxL := 5) (hh := [(0, 10, 13, 13), (0, 10, 17, 15), (0, 10, 21, 17)]) (n := 4) ⟨gw_0, gw_691, by decide, gw_690⟩ (rm := rmo 17 4 24) (mc := 4) (ms := 24) ⟨rfl, rfl, (show 17 + 1 ≤ R.frames by omega), (show 8 + (5 + 11) + 64 * 17 ≤ R.locals by omega)⟩ (As := [.ref (gS γ 7 0), .int (xs (I + 1)), .int (xs (I + 2)), .ref (gS γ 3000 0)]) (rest := []) rfl (L_map l hfl γ ad (xs (I + 1)) (xs (I + 2)) σ r σ1 hw7 he) gw_689 rfl hl.1 ca0 (Nat.le_of_ble_eq_true rfl) dL_law_1065 hf (fun ad H1 locs1 hR => ?_)
  refine rw_istore (i := 5) (lv' := [(5, .int (hk (fun e => if e = 1 then 1 else if e = 2 then 2 else if e = 3 then 3 else 0) r)), (0, .ref b), (1, .ref (gS γ 7 0)), (2, .ref (gS γ 8 0)), (3, .ref (gS γ 3000 0)), (4, .int (nI I))]) hX hl (Nat.le_of_ble_eq_true rfl) rfl dL_law_1068 (fun ls hl => ?_)
  refine rw_aload_n hX hl 3 rfl (Or.inr ⟨_, rfl⟩) dL_law_1070 rfl ?_
  refine rw_aload_n hX hl 1 rfl (Or.inr ⟨_, rfl⟩) dL_law_1071 rfl ?_
  refine rw_iload hX hl 5 rfl dL_law_1072 ?_
  refine lv_iconst (v := 1) hX.1.1 hX.1.2.1 dL_law_1074 rfl ?_
  refine lv_iadd hX.1.1 hX.1.2.1 dL_law_1075 ?_
  refine rw_scr hX hR.2 hsc (k := I + 1) (nI_plus I 1) (by omega) dL_law_1076 ?_
  refine rw_aload_n hX hl 1 rfl (Or.inr ⟨_, rfl⟩) dL_law_1077 rfl ?_
  refine rw_iload hX hl 5 rfl dL_law_1078 ?_
  refine lv_iconst (v := 2) hX.1.1 hX.1.2.1 dL_law_1080 rfl ?_
  refine lv_iadd hX.1.1 hX.1.2.1 dL_law_1081 ?_
  refine rw_scr hX hR.2 hsc (k := I + 2) (nI_plus I 2) (by omega) dL_law_1082 ?_
  refine rw_cVi hX hR pk_f8_map (mc := 0) (ms := 0) ⟨rfl, rfl, (show 6 + 1 ≤ R.frames by omega), (show 8 + (4 + 11) + 64 * 6 ≤ R.locals by omega)⟩ (As := [.int (xs (I + 1)), .int (xs (I + 2))]) (rest := []) rfl (C_f8_map l γ ad (xs (I + 1)) (xs (I + 2)) (hoi σ1 r) r2 σ2 hw8) gw_1220 gw_1221 gw_1222 (rs_recv hX hR 8 0 (C := RX7) (T := TX7) (N := 48) rfl (by decide) (Nat.le_of_ble_eq_true rfl) rfl) rfl hl.1 ca0 (Nat.le_of_ble_eq_true rfl) dL_law_1083 ⟨by omega, by omega⟩ (fun H1 locs1 hR => ?_)
  refine rw_istore (i := 6) (lv' := [(6, .int r2), (5, .int (hk (fun e => if e = 1 then 1 else if e = 2 then 2 else if e = 3 then 3 else 0) r)), (0, .ref b), (1, .ref (gS γ 7 0)), (2, .ref (gS γ 8 0)), (3, .ref (gS γ 3000 0)), (4, .int (nI I))]) hX hl (Nat.le_of_ble_eq_true rfl) rfl dL_law_1086 (fun ls hl => ?_)
  refine rw_aload_n hX hl 4 rfl (Or.inr ⟨_, rfl⟩) dL_law_1088 rfl ?_
  refine rw_cVi hX hR pk_f8_thrown (mc := 0) (ms := 0) ⟨rfl, rfl, (show 1 + 1 ≤ R.frames by omega), (show 8 + (1 + 11) + 64 * 1 ≤ R.locals by omega)⟩ (As := []) (rest := []) rfl (C_f8_thrown l γ ad σ2 _ hth) gw_1074 gw_1075 gw_1076 (rs_recv hX hR 8 0 (C := RX7) (T := TX7) (N := 48) rfl (by decide) (Nat.le_of_ble_eq_true rfl) rfl) rfl hl.1 ca0 (Nat.le_of_ble_eq_true rfl) dL_law_1089 ⟨by omega, by omega⟩ (fun H1 locs1 hR => ?_)
  refine rw_iload hX hl 1 rfl dL_law_1092 ?_
  refine lv_icmp_eq (x := hk (fun e => if e = 1 then 1 else if e = 2 then 2 else if e = 3 then 3 else 0) r) (y := hk (fun e => if e = 1 then 1 else if e = 2 then 2 else if e = 3 then 3 else 0) r) (tgt := 1099) hX.1.1 hX.1.2.1 dL_law_1094 (by decide) (fun c0 => ?_) (fun c0 => absurd rfl c0)
  refine rw_iload hX hl 1 rfl dL_law_1099 ?_
  replace hl := lh_sub hl [2, 3, 4, 5, 6, 1, 0] rfl
  refine lv_if_ne (x := hk (fun e => if e = 1 then 1 else if e = 2 then 2 else if e = 3 then 3 else 0) r) (tgt := 1116) hX.1.1 hX.1.2.1 dL_law_1101 (by decide) (fun c0 => ?_) (fun c0 => ?_)
  · refine lv_goto (tgt := 2230) hX.1.1 hX.1.2.1 dL_law_1116 (by decide) ?_
    exact kk ad ls _ _ (lh_sub hl [0, 1, 2, 3, 4] rfl) hR
  have hv1 := hv c0
  refine rw_aload_n hX hl 3 rfl (Or.inr ⟨_, rfl⟩) dL_law_1104 rfl ?_
  refine lv_iconst (v := 0) hX.1.1 hX.1.2.1 dL_law_1105 rfl ?_
  refine rw_outld hX hR dL_law_1106 ?_
  rw [hv1]
  refine rw_iload hX hl 6 rfl dL_law_1107 ?_
  refine lv_i2l hX.1.1 hX.1.2.1 dL_law_1109 rfl ?_
  refine W.lcmp hX.1.1 hX.1.2.1 dL_law_1110 ?_
  rw [lg_self]
  refine lv_if_eq (x := 0) (tgt := 1116) hX.1.1 hX.1.2.1 dL_law_1111 (by decide) (fun c2 => ?_) (fun c2 => absurd rfl c2)
  refine lv_goto (tgt := 2230) hX.1.1 hX.1.2.1 dL_law_1116 (by decide) ?_
  exact kk ad ls _ _ (lh_sub hl [0, 1, 2, 3, 4] rfl) hR
set_option maxHeartbeats 8000000 in
set_option maxRecDepth 100000 in
theorem LC_13 {p : Program} {l : Launch} (hfl : l.stackTraces = false) {e : Env} {R : Room} {s : State} {m : MethodId} {args : Array Value} {below : List Frame} {meth : Method} {c : Code} {H : Heap} {locs : List Loc} {cells slots : Nat} {Q : State → Prop} {γ : GT} {ad : Nat → Nat → Nat} {σ : St} {b L : Nat} {xs : Nat → Int32} {ls : Array Slot} (hX : CX γ p s m args c cL_law 7 RL) (hsc : SC γ s b L xs) (hRf : 100 ≤ R.frames ∧ 8000 ≤ R.locals) {fu I : Nat} (hI : I + 8 ≤ L) (hR : RS γ ad σ s H locs) (hl : lh ls 7 (lv7 γ b (nI I))) (hf : cells + 3 ≤ R.cells ∧ slots + 18 ≤ R.slots) {r : Except Nat Int32} {σ1 : St} (hw7 : f7_unmap fu (xs (I + 1)) (xs (I + 2)) σ = some (r, σ1)) (he : ∀ e, r = .error e → e = 1 ∨ e = 3) {r2 : Int32} {σ2 : St} (hw8 : f8_unmap fu (xs (I + 1)) (xs (I + 2)) (hoi σ1 r) = some (r2, σ2)) (hth : f8_thrown fu σ2 = some (hk (fun e => if e = 1 then 1 else if e = 3 then 2 else 0) r)) (hv : hk (fun e => if e = 1 then 1 else if e = 3 then 2 else 0) r = 0 → go σ2 = r2.toInt64)
    (kk : ∀ (ad : Nat → Nat → Nat) (ls : Array Slot) (H : Heap) (locs : List Loc), lh ls 7 (lv7 γ b (nI I)) → RS γ ad σ2 s H locs → W p l e R s m args below meth c H locs (cells + 3) (slots + 18) Q (F0 m 2230 ls [])) : W p l e R s m args below meth c H locs cells slots Q (F0 m 1119 ls []) := by
  refine rw_aload_n hX hl 1 rfl (Or.inr ⟨_, rfl⟩) dL_law_1119 rfl ?_
  refine rw_aload_n hX hl 0 rfl (Or.inr ⟨_, rfl⟩) dL_law_1120 rfl ?_
  refine rw_iload hX hl 4 rfl dL_law_1121 ?_
  refine lv_iconst (v := 1) hX.1.1 hX.1.2.1 dL_law_1123 rfl ?_
  refine lv_iadd hX.1.1 hX.1.2.1 dL_law_1124 ?_
  refine rw_scr hX hR.2 hsc (k := I + 1) (nI_plus I 1) (by omega) dL_law_1125 ?_
  refine rw_aload_n hX hl 0 rfl (Or.inr ⟨_, rfl⟩) dL_law_1126 rfl ?_
  refine rw_iload hX hl 4 rfl dL_law_1127 ?_
  refine lv_iconst (v := 2) hX.1.1 hX.1.2.1 dL_law_1129 rfl ?_
  refine lv_iadd hX.1.1 hX.1.2.1 dL_law_1130 ?_
  refine rw_scr hX hR.2 hsc (k := I + 2) (nI_plus I 2) (by omega) dL_law_1131 ?_
  refine rw_aload_n hX hl 3 rfl (Or.inr ⟨_, rfl⟩) dL_law_1132 rfl ?_
  refine rw_cSW hX hR (y := yL_unmap) (bytes := cL_unmap) (maxL := 5) (hh := [(0, 10, 13, 13), (0, 10, 17, 17)]) (n := 4) ⟨gw_0, gw_709, by decide, gw_708⟩ (rm := rmo 17 3 18) (mc := 3) (ms := 18) ⟨rfl, rfl, (show 17 + 1 ≤ R.frames by omega), (show 8 + (5 + 11) + 64 * 17 ≤ R.locals by omega)⟩ (As := [.ref (gS γ 7 0), .int (xs (I + 1)), .int (xs (I + 2)), .ref (gS γ 3000 0)]) (rest := []) rfl (L_unmap l hfl γ ad (xs (I + 1)) (xs (I + 2)) σ r σ1 hw7 he) gw_707 rfl hl.1 ca0 (Nat.le_of_ble_eq_true rfl) dL_law_1133 hf (fun ad H1 locs1 hR => ?_)
  refine rw_istore (i := 5) (lv' := [(5, .int (hk (fun e => if e = 1 then 1 else if e = 3 then 2 else 0) r)), (0, .ref b), (1, .ref (gS γ 7 0)), (2, .ref (gS γ 8 0)), (3, .ref (gS γ 3000 0)), (4, .int (nI I))]) hX hl (Nat.le_of_ble_eq_true rfl) rfl dL_law_1136 (fun ls hl => ?_)
  refine rw_aload_n hX hl 3 rfl (Or.inr ⟨_, rfl⟩) dL_law_1138 rfl ?_
  refine rw_aload_n hX hl 1 rfl (Or.inr ⟨_, rfl⟩) dL_law_1139 rfl ?_
  refine rw_iload hX hl 5 rfl dL_law_1140 ?_
  refine lv_iconst (v := 1) hX.1.1 hX.1.2.1 dL_law_1142 rfl ?_
  refine lv_iadd hX.1.1 hX.1.2.1 dL_law_1143 ?_
  refine rw_scr hX hR.2 hsc (k := I + 1) (nI_plus I 1) (by omega) dL_law_1144 ?_
  refine rw_aload_n hX hl 1 rfl (Or.inr ⟨_, rfl⟩) dL_law_1145 rfl ?_
  refine rw_iload hX hl 5 rfl dL_law_1146 ?_
  refine lv_iconst (v := 2) hX.1.1 hX.1.2.1 dL_law_1148 rfl ?_
  refine lv_iadd hX.1.1 hX.1.2.1 dL_law_1149 ?_
  refine rw_scr hX hR.2 hsc (k := I + 2) (nI_plus I 2) (by omega) dL_law_1150 ?_
  refine rw_cVi hX hR pk_f8_unmap (mc := 0) (ms := 0) ⟨rfl, rfl, (show 6 + 1 ≤ R.frames by omega), (show 8 + (3 + 11) + 64 * 6 ≤ R.locals by omega)⟩ (As := [.int (xs (I + 1)), .int (xs (I + 2))]) (rest := []) rfl (C_f8_unmap l γ ad (xs (I + 1)) (xs (I + 2)) (hoi σ1 r) r2 σ2 hw8) gw_1224 gw_1225 gw_1226 (rs_recv hX hR 8 0 (C := RX7) (T := TX7) (N := 48) rfl (by decide) (Nat.le_of_ble_eq_true rfl) rfl) rfl hl.1 ca0 (Nat.le_of_ble_eq_true rfl) dL_law_1151 ⟨by omega, by omega⟩ (fun H1 locs1 hR => ?_)
  refine rw_istore (i := 6) (lv' := [(6, .int r2), (5, .int (hk (fun e => if e = 1 then 1 else if e = 3 then 2 else 0) r)), (0, .ref b), (1, .ref (gS γ 7 0)), (2, .ref (gS γ 8 0)), (3, .ref (gS γ 3000 0)), (4, .int (nI I))]) hX hl (Nat.le_of_ble_eq_true rfl) rfl dL_law_1154 (fun ls hl => ?_)
  refine rw_aload_n hX hl 4 rfl (Or.inr ⟨_, rfl⟩) dL_law_1156 rfl ?_
  refine rw_cVi hX hR pk_f8_thrown (mc := 0) (ms := 0) ⟨rfl, rfl, (show 1 + 1 ≤ R.frames by omega), (show 8 + (1 + 11) + 64 * 1 ≤ R.locals by omega)⟩ (As := []) (rest := []) rfl (C_f8_thrown l γ ad σ2 _ hth) gw_1074 gw_1075 gw_1076 (rs_recv hX hR 8 0 (C := RX7) (T := TX7) (N := 48) rfl (by decide) (Nat.le_of_ble_eq_true rfl) rfl) rfl hl.1 ca0 (Nat.le_of_ble_eq_true rfl) dL_law_1157 ⟨by omega, by omega⟩ (fun H1 locs1 hR => ?_)
  refine rw_iload hX hl 1 rfl dL_law_1160 ?_
  refine lv_icmp_eq (x := hk (fun e => if e = 1 then 1 else if e = 3 then 2 else 0) r) (y := hk (fun e => if e = 1 then 1 else if e = 3 then 2 else 0) r) (tgt := 1167) hX.1.1 hX.1.2.1 dL_law_1162 (by decide) (fun c0 => ?_) (fun c0 => absurd rfl c0)
  refine rw_iload hX hl 1 rfl dL_law_1167 ?_
  replace hl := lh_sub hl [2, 3, 4, 5, 6, 1, 0] rfl
  refine lv_if_ne (x := hk (fun e => if e = 1 then 1 else if e = 3 then 2 else 0) r) (tgt := 1184) hX.1.1 hX.1.2.1 dL_law_1169 (by decide) (fun c0 => ?_) (fun c0 => ?_)
  · refine lv_goto (tgt := 2230) hX.1.1 hX.1.2.1 dL_law_1184 (by decide) ?_
    exact kk ad ls _ _ (lh_sub hl [0, 1, 2, 3, 4] rfl) hR
  have hv1 := hv c0
  refine rw_aload_n hX hl 3 rfl (Or.inr ⟨_, rfl⟩) dL_law_1172 rfl ?_
  refine lv_iconst (v := 0) hX.1.1 hX.1.2.1 dL_law_1173 rfl ?_
  refine rw_outld hX hR dL_law_1174 ?_
  rw [hv1]
  refine rw_iload hX hl 6 rfl dL_law_1175 ?_
  refine lv_i2l hX.1.1 hX.1.2.1 dL_law_1177 rfl ?_
  refine W.lcmp hX.1.1 hX.1.2.1 dL_law_1178 ?_
  rw [lg_self]
  refine lv_if_eq (x := 0) (tgt := 1184) hX.1.1 hX.1.2.1 dL_law_1179 (by decide) (fun c2 => ?_) (fun c2 => absurd rfl c2)
  refine lv_goto (tgt := 2230) hX.1.1 hX.1.2.1 dL_law_1184 (by decide) ?_
  exact kk ad ls _ _ (lh_sub hl [0, 1, 2, 3, 4] rfl) hR
set_option maxHeartbeats 8000000 in
set_option maxRecDepth 100000 in
theorem LC_14 {p : Program} {l : Launch} (hfl : l.stackTraces = false) {e : Env} {R : Room} {s : State} {m : MethodId} {args : Array Value} {below : List Frame} {meth : Method} {c : Code} {H : Heap} {locs : List Loc} {cells slots : Nat} {Q : State → Prop} {γ : GT} {ad : Nat → Nat → Nat} {σ : St} {b L : Nat} {xs : Nat → Int32} {ls : Array Slot} (hX : CX γ p s m args c cL_law 7 RL) (hsc : SC γ s b L xs) (hRf : 100 ≤ R.frames ∧ 8000 ≤ R.locals) {fu I : Nat} (hI : I + 8 ≤ L) (hR : RS γ ad σ s H locs) (hl : lh ls 7 (lv7 γ b (nI I))) (hf : cells + 3 ≤ R.cells ∧ slots + 18 ≤ R.slots) {r : Except Nat Int32} {σ1 : St} (hw7 : f7_access fu (xs (I + 1)) (xs (I + 2)) σ = some (r, σ1)) (he : ∀ e, r = .error e → e = 1 ∨ e = 3) {r2 : Int32} {σ2 : St} (hw8 : f8_access fu (xs (I + 1)) (xs (I + 2)) (hoi σ1 r) = some (r2, σ2)) (hth : f8_thrown fu σ2 = some (hk (fun e => if e = 1 then 1 else if e = 3 then 2 else 0) r)) (hv : hk (fun e => if e = 1 then 1 else if e = 3 then 2 else 0) r = 0 → go σ2 = r2.toInt64)
    (kk : ∀ (ad : Nat → Nat → Nat) (ls : Array Slot) (H : Heap) (locs : List Loc), lh ls 7 (lv7 γ b (nI I)) → RS γ ad σ2 s H locs → W p l e R s m args below meth c H locs (cells + 3) (slots + 18) Q (F0 m 2230 ls [])) : W p l e R s m args below meth c H locs cells slots Q (F0 m 1187 ls []) := by
  refine rw_aload_n hX hl 1 rfl (Or.inr ⟨_, rfl⟩) dL_law_1187 rfl ?_
  refine rw_aload_n hX hl 0 rfl (Or.inr ⟨_, rfl⟩) dL_law_1188 rfl ?_
  refine rw_iload hX hl 4 rfl dL_law_1189 ?_
  refine lv_iconst (v := 1) hX.1.1 hX.1.2.1 dL_law_1191 rfl ?_
  refine lv_iadd hX.1.1 hX.1.2.1 dL_law_1192 ?_
  refine rw_scr hX hR.2 hsc (k := I + 1) (nI_plus I 1) (by omega) dL_law_1193 ?_
  refine rw_aload_n hX hl 0 rfl (Or.inr ⟨_, rfl⟩) dL_law_1194 rfl ?_
  refine rw_iload hX hl 4 rfl dL_law_1195 ?_
  refine lv_iconst (v := 2) hX.1.1 hX.1.2.1 dL_law_1197 rfl ?_
  refine lv_iadd hX.1.1 hX.1.2.1 dL_law_1198 ?_
  refine rw_scr hX hR.2 hsc (k := I + 2) (nI_plus I 2) (by omega) dL_law_1199 ?_
  refine rw_aload_n hX hl 3 rfl (Or.inr ⟨_, rfl⟩) dL_law_1200 rfl ?_
  refine rw_cSW hX hR (y := yL_access) (bytes := cL_access) (maxL := 5) (hh := [(0, 10, 13, 13), (0, 10, 17, 17)]) (n := 4) ⟨gw_0, gw_717, by decide, gw_716⟩ (rm := rmo 17 3 18) (mc := 3) (ms := 18) ⟨rfl, rfl, (show 17 + 1 ≤ R.frames by omega), (show 8 + (5 + 11) + 64 * 17 ≤ R.locals by omega)⟩ (As := [.ref (gS γ 7 0), .int (xs (I + 1)), .int (xs (I + 2)), .ref (gS γ 3000 0)]) (rest := []) rfl (L_access l hfl γ ad (xs (I + 1)) (xs (I + 2)) σ r σ1 hw7 he) gw_715 rfl hl.1 ca0 (Nat.le_of_ble_eq_true rfl) dL_law_1201 hf (fun ad H1 locs1 hR => ?_)
  refine rw_istore (i := 5) (lv' := [(5, .int (hk (fun e => if e = 1 then 1 else if e = 3 then 2 else 0) r)), (0, .ref b), (1, .ref (gS γ 7 0)), (2, .ref (gS γ 8 0)), (3, .ref (gS γ 3000 0)), (4, .int (nI I))]) hX hl (Nat.le_of_ble_eq_true rfl) rfl dL_law_1204 (fun ls hl => ?_)
  refine rw_aload_n hX hl 3 rfl (Or.inr ⟨_, rfl⟩) dL_law_1206 rfl ?_
  refine rw_aload_n hX hl 1 rfl (Or.inr ⟨_, rfl⟩) dL_law_1207 rfl ?_
  refine rw_iload hX hl 5 rfl dL_law_1208 ?_
  refine lv_iconst (v := 1) hX.1.1 hX.1.2.1 dL_law_1210 rfl ?_
  refine lv_iadd hX.1.1 hX.1.2.1 dL_law_1211 ?_
  refine rw_scr hX hR.2 hsc (k := I + 1) (nI_plus I 1) (by omega) dL_law_1212 ?_
  refine rw_aload_n hX hl 1 rfl (Or.inr ⟨_, rfl⟩) dL_law_1213 rfl ?_
  refine rw_iload hX hl 5 rfl dL_law_1214 ?_
  refine lv_iconst (v := 2) hX.1.1 hX.1.2.1 dL_law_1216 rfl ?_
  refine lv_iadd hX.1.1 hX.1.2.1 dL_law_1217 ?_
  refine rw_scr hX hR.2 hsc (k := I + 2) (nI_plus I 2) (by omega) dL_law_1218 ?_
  refine rw_cVi hX hR pk_f8_access (mc := 0) (ms := 0) ⟨rfl, rfl, (show 6 + 1 ≤ R.frames by omega), (show 8 + (4 + 11) + 64 * 6 ≤ R.locals by omega)⟩ (As := [.int (xs (I + 1)), .int (xs (I + 2))]) (rest := []) rfl (C_f8_access l γ ad (xs (I + 1)) (xs (I + 2)) (hoi σ1 r) r2 σ2 hw8) gw_1228 gw_1229 gw_1230 (rs_recv hX hR 8 0 (C := RX7) (T := TX7) (N := 48) rfl (by decide) (Nat.le_of_ble_eq_true rfl) rfl) rfl hl.1 ca0 (Nat.le_of_ble_eq_true rfl) dL_law_1219 ⟨by omega, by omega⟩ (fun H1 locs1 hR => ?_)
  refine rw_istore (i := 6) (lv' := [(6, .int r2), (5, .int (hk (fun e => if e = 1 then 1 else if e = 3 then 2 else 0) r)), (0, .ref b), (1, .ref (gS γ 7 0)), (2, .ref (gS γ 8 0)), (3, .ref (gS γ 3000 0)), (4, .int (nI I))]) hX hl (Nat.le_of_ble_eq_true rfl) rfl dL_law_1222 (fun ls hl => ?_)
  refine rw_aload_n hX hl 4 rfl (Or.inr ⟨_, rfl⟩) dL_law_1224 rfl ?_
  refine rw_cVi hX hR pk_f8_thrown (mc := 0) (ms := 0) ⟨rfl, rfl, (show 1 + 1 ≤ R.frames by omega), (show 8 + (1 + 11) + 64 * 1 ≤ R.locals by omega)⟩ (As := []) (rest := []) rfl (C_f8_thrown l γ ad σ2 _ hth) gw_1074 gw_1075 gw_1076 (rs_recv hX hR 8 0 (C := RX7) (T := TX7) (N := 48) rfl (by decide) (Nat.le_of_ble_eq_true rfl) rfl) rfl hl.1 ca0 (Nat.le_of_ble_eq_true rfl) dL_law_1225 ⟨by omega, by omega⟩ (fun H1 locs1 hR => ?_)
  refine rw_iload hX hl 1 rfl dL_law_1228 ?_
  refine lv_icmp_eq (x := hk (fun e => if e = 1 then 1 else if e = 3 then 2 else 0) r) (y := hk (fun e => if e = 1 then 1 else if e = 3 then 2 else 0) r) (tgt := 1235) hX.1.1 hX.1.2.1 dL_law_1230 (by decide) (fun c0 => ?_) (fun c0 => absurd rfl c0)
  refine rw_iload hX hl 1 rfl dL_law_1235 ?_
  replace hl := lh_sub hl [2, 3, 4, 5, 6, 1, 0] rfl
  refine lv_if_ne (x := hk (fun e => if e = 1 then 1 else if e = 3 then 2 else 0) r) (tgt := 1252) hX.1.1 hX.1.2.1 dL_law_1237 (by decide) (fun c0 => ?_) (fun c0 => ?_)
  · refine lv_goto (tgt := 2230) hX.1.1 hX.1.2.1 dL_law_1252 (by decide) ?_
    exact kk ad ls _ _ (lh_sub hl [0, 1, 2, 3, 4] rfl) hR
  have hv1 := hv c0
  refine rw_aload_n hX hl 3 rfl (Or.inr ⟨_, rfl⟩) dL_law_1240 rfl ?_
  refine lv_iconst (v := 0) hX.1.1 hX.1.2.1 dL_law_1241 rfl ?_
  refine rw_outld hX hR dL_law_1242 ?_
  rw [hv1]
  refine rw_iload hX hl 6 rfl dL_law_1243 ?_
  refine lv_i2l hX.1.1 hX.1.2.1 dL_law_1245 rfl ?_
  refine W.lcmp hX.1.1 hX.1.2.1 dL_law_1246 ?_
  rw [lg_self]
  refine lv_if_eq (x := 0) (tgt := 1252) hX.1.1 hX.1.2.1 dL_law_1247 (by decide) (fun c2 => ?_) (fun c2 => absurd rfl c2)
  refine lv_goto (tgt := 2230) hX.1.1 hX.1.2.1 dL_law_1252 (by decide) ?_
  exact kk ad ls _ _ (lh_sub hl [0, 1, 2, 3, 4] rfl) hR
set_option maxHeartbeats 8000000 in
set_option maxRecDepth 100000 in
theorem LC_15 {p : Program} {l : Launch} (hfl : l.stackTraces = false) {e : Env} {R : Room} {s : State} {m : MethodId} {args : Array Value} {below : List Frame} {meth : Method} {c : Code} {H : Heap} {locs : List Loc} {cells slots : Nat} {Q : State → Prop} {γ : GT} {ad : Nat → Nat → Nat} {σ : St} {b L : Nat} {xs : Nat → Int32} {ls : Array Slot} (hX : CX γ p s m args c cL_law 7 RL) (hsc : SC γ s b L xs) (hRf : 100 ≤ R.frames ∧ 8000 ≤ R.locals) {fu I : Nat} (hI : I + 8 ≤ L) (hR : RS γ ad σ s H locs) (hl : lh ls 7 (lv7 γ b (nI I))) (hf : cells + 2 ≤ R.cells ∧ slots + 12 ≤ R.slots) {r : Except Nat Int32} {σ1 : St} (hw7 : f7_pass fu (xs (I + 1)) σ = some (r, σ1)) (he : ∀ e, r = .error e → e = 2 ∨ e = 3) {r2 : Int32} {σ2 : St} (hw8 : f8_pass fu (xs (I + 1)) (hoi σ1 r) = some (r2, σ2)) (hth : f8_thrown fu σ2 = some (hk (fun e => if e = 2 then 1 else if e = 3 then 2 else 0) r)) (hv : hk (fun e => if e = 2 then 1 else if e = 3 then 2 else 0) r = 0 → go σ2 = r2.toInt64)
    (kk : ∀ (ad : Nat → Nat → Nat) (ls : Array Slot) (H : Heap) (locs : List Loc), lh ls 7 (lv7 γ b (nI I)) → RS γ ad σ2 s H locs → W p l e R s m args below meth c H locs (cells + 2) (slots + 12) Q (F0 m 2230 ls [])) : W p l e R s m args below meth c H locs cells slots Q (F0 m 1255 ls []) := by
  refine rw_aload_n hX hl 1 rfl (Or.inr ⟨_, rfl⟩) dL_law_1255 rfl ?_
  refine rw_aload_n hX hl 0 rfl (Or.inr ⟨_, rfl⟩) dL_law_1256 rfl ?_
  refine rw_iload hX hl 4 rfl dL_law_1257 ?_
  refine lv_iconst (v := 1) hX.1.1 hX.1.2.1 dL_law_1259 rfl ?_
  refine lv_iadd hX.1.1 hX.1.2.1 dL_law_1260 ?_
  refine rw_scr hX hR.2 hsc (k := I + 1) (nI_plus I 1) (by omega) dL_law_1261 ?_
  refine rw_aload_n hX hl 3 rfl (Or.inr ⟨_, rfl⟩) dL_law_1262 rfl ?_
  refine rw_cSW hX hR (y := yL_pass) (bytes := cL_pass) (maxL := 4) (hh := [(0, 9, 12, 15), (0, 9, 15, 17)]) (n := 3) ⟨gw_0, gw_724, by decide, gw_723⟩ (rm := rmo 17 2 12) (mc := 2) (ms := 12) ⟨rfl, rfl, (show 17 + 1 ≤ R.frames by omega), (show 8 + (4 + 11) + 64 * 17 ≤ R.locals by omega)⟩ (As := [.ref (gS γ 7 0), .int (xs (I + 1)), .ref (gS γ 3000 0)]) (rest := []) rfl (L_pass l hfl γ ad (xs (I + 1)) σ r σ1 hw7 he) gw_722 rfl hl.1 ca0 (Nat.le_of_ble_eq_true rfl) dL_law_1263 hf (fun ad H1 locs1 hR => ?_)
  refine rw_istore (i := 5) (lv' := [(5, .int (hk (fun e => if e = 2 then 1 else if e = 3 then 2 else 0) r)), (0, .ref b), (1, .ref (gS γ 7 0)), (2, .ref (gS γ 8 0)), (3, .ref (gS γ 3000 0)), (4, .int (nI I))]) hX hl (Nat.le_of_ble_eq_true rfl) rfl dL_law_1266 (fun ls hl => ?_)
  refine rw_aload_n hX hl 3 rfl (Or.inr ⟨_, rfl⟩) dL_law_1268 rfl ?_
  refine rw_aload_n hX hl 1 rfl (Or.inr ⟨_, rfl⟩) dL_law_1269 rfl ?_
  refine rw_iload hX hl 5 rfl dL_law_1270 ?_
  refine lv_iconst (v := 1) hX.1.1 hX.1.2.1 dL_law_1272 rfl ?_
  refine lv_iadd hX.1.1 hX.1.2.1 dL_law_1273 ?_
  refine rw_scr hX hR.2 hsc (k := I + 1) (nI_plus I 1) (by omega) dL_law_1274 ?_
  refine rw_cVi hX hR pk_f8_pass (mc := 0) (ms := 0) ⟨rfl, rfl, (show 6 + 1 ≤ R.frames by omega), (show 8 + (3 + 11) + 64 * 6 ≤ R.locals by omega)⟩ (As := [.int (xs (I + 1))]) (rest := []) rfl (C_f8_pass l γ ad (xs (I + 1)) (hoi σ1 r) r2 σ2 hw8) gw_1232 gw_1233 gw_1234 (rs_recv hX hR 8 0 (C := RX7) (T := TX7) (N := 48) rfl (by decide) (Nat.le_of_ble_eq_true rfl) rfl) rfl hl.1 ca0 (Nat.le_of_ble_eq_true rfl) dL_law_1275 ⟨by omega, by omega⟩ (fun H1 locs1 hR => ?_)
  refine rw_istore (i := 6) (lv' := [(6, .int r2), (5, .int (hk (fun e => if e = 2 then 1 else if e = 3 then 2 else 0) r)), (0, .ref b), (1, .ref (gS γ 7 0)), (2, .ref (gS γ 8 0)), (3, .ref (gS γ 3000 0)), (4, .int (nI I))]) hX hl (Nat.le_of_ble_eq_true rfl) rfl dL_law_1278 (fun ls hl => ?_)
  refine rw_aload_n hX hl 4 rfl (Or.inr ⟨_, rfl⟩) dL_law_1280 rfl ?_
  refine rw_cVi hX hR pk_f8_thrown (mc := 0) (ms := 0) ⟨rfl, rfl, (show 1 + 1 ≤ R.frames by omega), (show 8 + (1 + 11) + 64 * 1 ≤ R.locals by omega)⟩ (As := []) (rest := []) rfl (C_f8_thrown l γ ad σ2 _ hth) gw_1074 gw_1075 gw_1076 (rs_recv hX hR 8 0 (C := RX7) (T := TX7) (N := 48) rfl (by decide) (Nat.le_of_ble_eq_true rfl) rfl) rfl hl.1 ca0 (Nat.le_of_ble_eq_true rfl) dL_law_1281 ⟨by omega, by omega⟩ (fun H1 locs1 hR => ?_)
  refine rw_iload hX hl 1 rfl dL_law_1284 ?_
  refine lv_icmp_eq (x := hk (fun e => if e = 2 then 1 else if e = 3 then 2 else 0) r) (y := hk (fun e => if e = 2 then 1 else if e = 3 then 2 else 0) r) (tgt := 1291) hX.1.1 hX.1.2.1 dL_law_1286 (by decide) (fun c0 => ?_) (fun c0 => absurd rfl c0)
  refine rw_iload hX hl 1 rfl dL_law_1291 ?_
  replace hl := lh_sub hl [2, 3, 4, 5, 6, 1, 0] rfl
  refine lv_if_ne (x := hk (fun e => if e = 2 then 1 else if e = 3 then 2 else 0) r) (tgt := 1308) hX.1.1 hX.1.2.1 dL_law_1293 (by decide) (fun c0 => ?_) (fun c0 => ?_)
  · refine lv_goto (tgt := 2230) hX.1.1 hX.1.2.1 dL_law_1308 (by decide) ?_
    exact kk ad ls _ _ (lh_sub hl [0, 1, 2, 3, 4] rfl) hR
  have hv1 := hv c0
  refine rw_aload_n hX hl 3 rfl (Or.inr ⟨_, rfl⟩) dL_law_1296 rfl ?_
  refine lv_iconst (v := 0) hX.1.1 hX.1.2.1 dL_law_1297 rfl ?_
  refine rw_outld hX hR dL_law_1298 ?_
  rw [hv1]
  refine rw_iload hX hl 6 rfl dL_law_1299 ?_
  refine lv_i2l hX.1.1 hX.1.2.1 dL_law_1301 rfl ?_
  refine W.lcmp hX.1.1 hX.1.2.1 dL_law_1302 ?_
  rw [lg_self]
  refine lv_if_eq (x := 0) (tgt := 1308) hX.1.1 hX.1.2.1 dL_law_1303 (by decide) (fun c2 => ?_) (fun c2 => absurd rfl c2)
  refine lv_goto (tgt := 2230) hX.1.1 hX.1.2.1 dL_law_1308 (by decide) ?_
  exact kk ad ls _ _ (lh_sub hl [0, 1, 2, 3, 4] rfl) hR
set_option maxHeartbeats 8000000 in
set_option maxRecDepth 100000 in
theorem LC_16 {p : Program} {l : Launch} (hfl : l.stackTraces = false) {e : Env} {R : Room} {s : State} {m : MethodId} {args : Array Value} {below : List Frame} {meth : Method} {c : Code} {H : Heap} {locs : List Loc} {cells slots : Nat} {Q : State → Prop} {γ : GT} {ad : Nat → Nat → Nat} {σ : St} {b L : Nat} {xs : Nat → Int32} {ls : Array Slot} (hX : CX γ p s m args c cL_law 7 RL) (hsc : SC γ s b L xs) (hRf : 100 ≤ R.frames ∧ 8000 ≤ R.locals) {fu I : Nat} (hI : I + 8 ≤ L) (hR : RS γ ad σ s H locs) (hl : lh ls 7 (lv7 γ b (nI I))) (hf : cells + 1 ≤ R.cells ∧ slots + 6 ≤ R.slots) {r : Except Nat Int32} {σ1 : St} (hw7 : f7_suspend fu σ = some (r, σ1)) (he : ∀ e, r = .error e → e = 3) {r2 : Int32} {σ2 : St} (hw8 : f8_suspend fu (hoi σ1 r) = some (r2, σ2)) (hth : f8_thrown fu σ2 = some (hk (fun e => if e = 3 then 1 else 0) r)) (hv : hk (fun e => if e = 3 then 1 else 0) r = 0 → go σ2 = r2.toInt64)
    (kk : ∀ (ad : Nat → Nat → Nat) (ls : Array Slot) (H : Heap) (locs : List Loc), lh ls 7 (lv7 γ b (nI I)) → RS γ ad σ2 s H locs → W p l e R s m args below meth c H locs (cells + 1) (slots + 6) Q (F0 m 2230 ls [])) : W p l e R s m args below meth c H locs cells slots Q (F0 m 1311 ls []) := by
  refine rw_aload_n hX hl 1 rfl (Or.inr ⟨_, rfl⟩) dL_law_1311 rfl ?_
  refine rw_aload_n hX hl 3 rfl (Or.inr ⟨_, rfl⟩) dL_law_1312 rfl ?_
  refine rw_cSW hX hR (y := yL_suspend) (bytes := cL_suspend) (maxL := 3) (hh := [(0, 8, 11, 17)]) (n := 2) ⟨gw_0, gw_752, by decide, gw_751⟩ (rm := rmo 83 1 6) (mc := 1) (ms := 6) ⟨rfl, rfl, (show 83 + 1 ≤ R.frames by omega), (show 8 + (3 + 11) + 64 * 83 ≤ R.locals by omega)⟩ (As := [.ref (gS γ 7 0), .ref (gS γ 3000 0)]) (rest := []) rfl (L_suspend l hfl γ ad σ r σ1 hw7 he) gw_750 rfl hl.1 ca0 (Nat.le_of_ble_eq_true rfl) dL_law_1313 hf (fun ad H1 locs1 hR => ?_)
  refine rw_istore (i := 5) (lv' := [(5, .int (hk (fun e => if e = 3 then 1 else 0) r)), (0, .ref b), (1, .ref (gS γ 7 0)), (2, .ref (gS γ 8 0)), (3, .ref (gS γ 3000 0)), (4, .int (nI I))]) hX hl (Nat.le_of_ble_eq_true rfl) rfl dL_law_1316 (fun ls hl => ?_)
  refine rw_aload_n hX hl 3 rfl (Or.inr ⟨_, rfl⟩) dL_law_1318 rfl ?_
  refine rw_cVi hX hR pk_f8_suspend (mc := 0) (ms := 0) ⟨rfl, rfl, (show 6 + 1 ≤ R.frames by omega), (show 8 + (4 + 11) + 64 * 6 ≤ R.locals by omega)⟩ (As := []) (rest := []) rfl (C_f8_suspend l γ ad (hoi σ1 r) r2 σ2 hw8) gw_1252 gw_1253 gw_1254 (rs_recv hX hR 8 0 (C := RX7) (T := TX7) (N := 48) rfl (by decide) (Nat.le_of_ble_eq_true rfl) rfl) rfl hl.1 ca0 (Nat.le_of_ble_eq_true rfl) dL_law_1319 ⟨by omega, by omega⟩ (fun H1 locs1 hR => ?_)
  refine rw_istore (i := 6) (lv' := [(6, .int r2), (5, .int (hk (fun e => if e = 3 then 1 else 0) r)), (0, .ref b), (1, .ref (gS γ 7 0)), (2, .ref (gS γ 8 0)), (3, .ref (gS γ 3000 0)), (4, .int (nI I))]) hX hl (Nat.le_of_ble_eq_true rfl) rfl dL_law_1322 (fun ls hl => ?_)
  refine rw_aload_n hX hl 4 rfl (Or.inr ⟨_, rfl⟩) dL_law_1324 rfl ?_
  refine rw_cVi hX hR pk_f8_thrown (mc := 0) (ms := 0) ⟨rfl, rfl, (show 1 + 1 ≤ R.frames by omega), (show 8 + (1 + 11) + 64 * 1 ≤ R.locals by omega)⟩ (As := []) (rest := []) rfl (C_f8_thrown l γ ad σ2 _ hth) gw_1074 gw_1075 gw_1076 (rs_recv hX hR 8 0 (C := RX7) (T := TX7) (N := 48) rfl (by decide) (Nat.le_of_ble_eq_true rfl) rfl) rfl hl.1 ca0 (Nat.le_of_ble_eq_true rfl) dL_law_1325 ⟨by omega, by omega⟩ (fun H1 locs1 hR => ?_)
  refine rw_iload hX hl 1 rfl dL_law_1328 ?_
  refine lv_icmp_eq (x := hk (fun e => if e = 3 then 1 else 0) r) (y := hk (fun e => if e = 3 then 1 else 0) r) (tgt := 1335) hX.1.1 hX.1.2.1 dL_law_1330 (by decide) (fun c0 => ?_) (fun c0 => absurd rfl c0)
  refine rw_iload hX hl 1 rfl dL_law_1335 ?_
  replace hl := lh_sub hl [2, 3, 4, 5, 6, 1, 0] rfl
  refine lv_if_ne (x := hk (fun e => if e = 3 then 1 else 0) r) (tgt := 1352) hX.1.1 hX.1.2.1 dL_law_1337 (by decide) (fun c0 => ?_) (fun c0 => ?_)
  · refine lv_goto (tgt := 2230) hX.1.1 hX.1.2.1 dL_law_1352 (by decide) ?_
    exact kk ad ls _ _ (lh_sub hl [0, 1, 2, 3, 4] rfl) hR
  have hv1 := hv c0
  refine rw_aload_n hX hl 3 rfl (Or.inr ⟨_, rfl⟩) dL_law_1340 rfl ?_
  refine lv_iconst (v := 0) hX.1.1 hX.1.2.1 dL_law_1341 rfl ?_
  refine rw_outld hX hR dL_law_1342 ?_
  rw [hv1]
  refine rw_iload hX hl 6 rfl dL_law_1343 ?_
  refine lv_i2l hX.1.1 hX.1.2.1 dL_law_1345 rfl ?_
  refine W.lcmp hX.1.1 hX.1.2.1 dL_law_1346 ?_
  rw [lg_self]
  refine lv_if_eq (x := 0) (tgt := 1352) hX.1.1 hX.1.2.1 dL_law_1347 (by decide) (fun c2 => ?_) (fun c2 => absurd rfl c2)
  refine lv_goto (tgt := 2230) hX.1.1 hX.1.2.1 dL_law_1352 (by decide) ?_
  exact kk ad ls _ _ (lh_sub hl [0, 1, 2, 3, 4] rfl) hR
set_option maxHeartbeats 8000000 in
set_option maxRecDepth 100000 in
theorem LC_17 {p : Program} {l : Launch} (hfl : l.stackTraces = false) {e : Env} {R : Room} {s : State} {m : MethodId} {args : Array Value} {below : List Frame} {meth : Method} {c : Code} {H : Heap} {locs : List Loc} {cells slots : Nat} {Q : State → Prop} {γ : GT} {ad : Nat → Nat → Nat} {σ : St} {b L : Nat} {xs : Nat → Int32} {ls : Array Slot} (hX : CX γ p s m args c cL_law 7 RL) (hsc : SC γ s b L xs) (hRf : 100 ≤ R.frames ∧ 8000 ≤ R.locals) {fu I : Nat} (hI : I + 8 ≤ L) (hR : RS γ ad σ s H locs) (hl : lh ls 7 (lv7 γ b (nI I))) (hf : cells + 36 ≤ R.cells ∧ slots + 6040 ≤ R.slots) {r : Except Nat Int32} {σ1 : St} (hw7 : f7_resume fu σ = some (r, σ1)) (he : ∀ e, r = .error e → e = 3) {r2 : Int32} {σ2 : St} (hw8 : f8_resume fu (hoi σ1 r) = some (r2, σ2)) (hth : f8_thrown fu σ2 = some (hk (fun e => if e = 3 then 1 else 0) r)) (hv : hk (fun e => if e = 3 then 1 else 0) r = 0 → go σ2 = r2.toInt64)
    (kk : ∀ (ad : Nat → Nat → Nat) (ls : Array Slot) (H : Heap) (locs : List Loc), lh ls 7 (lv7 γ b (nI I)) → RS γ ad σ2 s H locs → W p l e R s m args below meth c H locs (cells + 36) (slots + 6040) Q (F0 m 2230 ls [])) : W p l e R s m args below meth c H locs cells slots Q (F0 m 1355 ls []) := by
  refine rw_aload_n hX hl 1 rfl (Or.inr ⟨_, rfl⟩) dL_law_1355 rfl ?_
  refine rw_aload_n hX hl 3 rfl (Or.inr ⟨_, rfl⟩) dL_law_1356 rfl ?_
  refine rw_cSW hX hR (y := yL_resume) (bytes := cL_resume) (maxL := 3) (hh := [(0, 8, 11, 17)]) (n := 2) ⟨gw_0, gw_767, by decide, gw_766⟩ (rm := rmo 85 36 6040) (mc := 36) (ms := 6040) ⟨rfl, rfl, (show 85 + 1 ≤ R.frames by omega), (show 8 + (3 + 11) + 64 * 85 ≤ R.locals by omega)⟩ (As := [.ref (gS γ 7 0), .ref (gS γ 3000 0)]) (rest := []) rfl (L_resume l hfl γ ad σ r σ1 hw7 he) gw_765 rfl hl.1 ca0 (Nat.le_of_ble_eq_true rfl) dL_law_1357 hf (fun ad H1 locs1 hR => ?_)
  refine rw_istore (i := 5) (lv' := [(5, .int (hk (fun e => if e = 3 then 1 else 0) r)), (0, .ref b), (1, .ref (gS γ 7 0)), (2, .ref (gS γ 8 0)), (3, .ref (gS γ 3000 0)), (4, .int (nI I))]) hX hl (Nat.le_of_ble_eq_true rfl) rfl dL_law_1360 (fun ls hl => ?_)
  refine rw_aload_n hX hl 3 rfl (Or.inr ⟨_, rfl⟩) dL_law_1362 rfl ?_
  refine rw_cVi hX hR pk_f8_resume (mc := 0) (ms := 0) ⟨rfl, rfl, (show 6 + 1 ≤ R.frames by omega), (show 8 + (4 + 11) + 64 * 6 ≤ R.locals by omega)⟩ (As := []) (rest := []) rfl (C_f8_resume l γ ad (hoi σ1 r) r2 σ2 hw8) gw_1264 gw_1265 gw_1266 (rs_recv hX hR 8 0 (C := RX7) (T := TX7) (N := 48) rfl (by decide) (Nat.le_of_ble_eq_true rfl) rfl) rfl hl.1 ca0 (Nat.le_of_ble_eq_true rfl) dL_law_1363 ⟨by omega, by omega⟩ (fun H1 locs1 hR => ?_)
  refine rw_istore (i := 6) (lv' := [(6, .int r2), (5, .int (hk (fun e => if e = 3 then 1 else 0) r)), (0, .ref b), (1, .ref (gS γ 7 0)), (2, .ref (gS γ 8 0)), (3, .ref (gS γ 3000 0)), (4, .int (nI I))]) hX hl (Nat.le_of_ble_eq_true rfl) rfl dL_law_1366 (fun ls hl => ?_)
  refine rw_aload_n hX hl 4 rfl (Or.inr ⟨_, rfl⟩) dL_law_1368 rfl ?_
  refine rw_cVi hX hR pk_f8_thrown (mc := 0) (ms := 0) ⟨rfl, rfl, (show 1 + 1 ≤ R.frames by omega), (show 8 + (1 + 11) + 64 * 1 ≤ R.locals by omega)⟩ (As := []) (rest := []) rfl (C_f8_thrown l γ ad σ2 _ hth) gw_1074 gw_1075 gw_1076 (rs_recv hX hR 8 0 (C := RX7) (T := TX7) (N := 48) rfl (by decide) (Nat.le_of_ble_eq_true rfl) rfl) rfl hl.1 ca0 (Nat.le_of_ble_eq_true rfl) dL_law_1369 ⟨by omega, by omega⟩ (fun H1 locs1 hR => ?_)
  refine rw_iload hX hl 1 rfl dL_law_1372 ?_
  refine lv_icmp_eq (x := hk (fun e => if e = 3 then 1 else 0) r) (y := hk (fun e => if e = 3 then 1 else 0) r) (tgt := 1379) hX.1.1 hX.1.2.1 dL_law_1374 (by decide) (fun c0 => ?_) (fun c0 => absurd rfl c0)
  refine rw_iload hX hl 1 rfl dL_law_1379 ?_
  replace hl := lh_sub hl [2, 3, 4, 5, 6, 1, 0] rfl
  refine lv_if_ne (x := hk (fun e => if e = 3 then 1 else 0) r) (tgt := 1396) hX.1.1 hX.1.2.1 dL_law_1381 (by decide) (fun c0 => ?_) (fun c0 => ?_)
  · refine lv_goto (tgt := 2230) hX.1.1 hX.1.2.1 dL_law_1396 (by decide) ?_
    exact kk ad ls _ _ (lh_sub hl [0, 1, 2, 3, 4] rfl) hR
  have hv1 := hv c0
  refine rw_aload_n hX hl 3 rfl (Or.inr ⟨_, rfl⟩) dL_law_1384 rfl ?_
  refine lv_iconst (v := 0) hX.1.1 hX.1.2.1 dL_law_1385 rfl ?_
  refine rw_outld hX hR dL_law_1386 ?_
  rw [hv1]
  refine rw_iload hX hl 6 rfl dL_law_1387 ?_
  refine lv_i2l hX.1.1 hX.1.2.1 dL_law_1389 rfl ?_
  refine W.lcmp hX.1.1 hX.1.2.1 dL_law_1390 ?_
  rw [lg_self]
  refine lv_if_eq (x := 0) (tgt := 1396) hX.1.1 hX.1.2.1 dL_law_1391 (by decide) (fun c2 => ?_) (fun c2 => absurd rfl c2)
  refine lv_goto (tgt := 2230) hX.1.1 hX.1.2.1 dL_law_1396 (by decide) ?_
  exact kk ad ls _ _ (lh_sub hl [0, 1, 2, 3, 4] rfl) hR
set_option maxHeartbeats 8000000 in
set_option maxRecDepth 100000 in
theorem LC_18 {p : Program} {l : Launch} (hfl : l.stackTraces = false) {e : Env} {R : Room} {s : State} {m : MethodId} {args : Array Value} {below : List Frame} {meth : Method} {c : Code} {H : Heap} {locs : List Loc} {cells slots : Nat} {Q : State → Prop} {γ : GT} {ad : Nat → Nat → Nat} {σ : St} {b L : Nat} {xs : Nat → Int32} {ls : Array Slot} (hX : CX γ p s m args c cL_law 7 RL) (hsc : SC γ s b L xs) (hRf : 100 ≤ R.frames ∧ 8000 ≤ R.locals) {fu I : Nat} (hI : I + 8 ≤ L) (hR : RS γ ad σ s H locs) (hl : lh ls 7 (lv7 γ b (nI I))) (hf : cells + 5 ≤ R.cells ∧ slots + 30 ≤ R.slots) {r : Except Nat Int32} {σ1 : St} (hw7 : f7_raise fu (xs (I + 1)) σ = some (r, σ1)) (he : ∀ e, r = .error e → e = 1 ∨ e = 3) {r2 : Int32} {σ2 : St} (hw8 : f8_raise fu (xs (I + 1)) (hoi σ1 r) = some (r2, σ2)) (hth : f8_thrown fu σ2 = some (hk (fun e => if e = 1 then 1 else if e = 3 then 2 else 0) r)) (hv : hk (fun e => if e = 1 then 1 else if e = 3 then 2 else 0) r = 0 → go σ2 = r2.toInt64)
    (kk : ∀ (ad : Nat → Nat → Nat) (ls : Array Slot) (H : Heap) (locs : List Loc), lh ls 7 (lv7 γ b (nI I)) → RS γ ad σ2 s H locs → W p l e R s m args below meth c H locs (cells + 5) (slots + 30) Q (F0 m 2230 ls [])) : W p l e R s m args below meth c H locs cells slots Q (F0 m 1399 ls []) := by
  refine rw_aload_n hX hl 1 rfl (Or.inr ⟨_, rfl⟩) dL_law_1399 rfl ?_
  refine rw_aload_n hX hl 0 rfl (Or.inr ⟨_, rfl⟩) dL_law_1400 rfl ?_
  refine rw_iload hX hl 4 rfl dL_law_1401 ?_
  refine lv_iconst (v := 1) hX.1.1 hX.1.2.1 dL_law_1403 rfl ?_
  refine lv_iadd hX.1.1 hX.1.2.1 dL_law_1404 ?_
  refine rw_scr hX hR.2 hsc (k := I + 1) (nI_plus I 1) (by omega) dL_law_1405 ?_
  refine rw_aload_n hX hl 3 rfl (Or.inr ⟨_, rfl⟩) dL_law_1406 rfl ?_
  refine rw_cSW hX hR (y := yL_raise) (bytes := cL_raise) (maxL := 4) (hh := [(0, 9, 12, 13), (0, 9, 15, 17)]) (n := 3) ⟨gw_0, gw_791, by decide, gw_790⟩ (rm := rmo 83 5 30) (mc := 5) (ms := 30) ⟨rfl, rfl, (show 83 + 1 ≤ R.frames by omega), (show 8 + (4 + 11) + 64 * 83 ≤ R.locals by omega)⟩ (As := [.ref (gS γ 7 0), .int (xs (I + 1)), .ref (gS γ 3000 0)]) (rest := []) rfl (L_raise l hfl γ ad (xs (I + 1)) σ r σ1 hw7 he) gw_789 rfl hl.1 ca0 (Nat.le_of_ble_eq_true rfl) dL_law_1407 hf (fun ad H1 locs1 hR => ?_)
  refine rw_istore (i := 5) (lv' := [(5, .int (hk (fun e => if e = 1 then 1 else if e = 3 then 2 else 0) r)), (0, .ref b), (1, .ref (gS γ 7 0)), (2, .ref (gS γ 8 0)), (3, .ref (gS γ 3000 0)), (4, .int (nI I))]) hX hl (Nat.le_of_ble_eq_true rfl) rfl dL_law_1410 (fun ls hl => ?_)
  refine rw_aload_n hX hl 3 rfl (Or.inr ⟨_, rfl⟩) dL_law_1412 rfl ?_
  refine rw_aload_n hX hl 1 rfl (Or.inr ⟨_, rfl⟩) dL_law_1413 rfl ?_
  refine rw_iload hX hl 5 rfl dL_law_1414 ?_
  refine lv_iconst (v := 1) hX.1.1 hX.1.2.1 dL_law_1416 rfl ?_
  refine lv_iadd hX.1.1 hX.1.2.1 dL_law_1417 ?_
  refine rw_scr hX hR.2 hsc (k := I + 1) (nI_plus I 1) (by omega) dL_law_1418 ?_
  refine rw_cVi hX hR pk_f8_raise (mc := 0) (ms := 0) ⟨rfl, rfl, (show 6 + 1 ≤ R.frames by omega), (show 8 + (4 + 11) + 64 * 6 ≤ R.locals by omega)⟩ (As := [.int (xs (I + 1))]) (rest := []) rfl (C_f8_raise l γ ad (xs (I + 1)) (hoi σ1 r) r2 σ2 hw8) gw_1276 gw_1277 gw_1278 (rs_recv hX hR 8 0 (C := RX7) (T := TX7) (N := 48) rfl (by decide) (Nat.le_of_ble_eq_true rfl) rfl) rfl hl.1 ca0 (Nat.le_of_ble_eq_true rfl) dL_law_1419 ⟨by omega, by omega⟩ (fun H1 locs1 hR => ?_)
  refine rw_istore (i := 6) (lv' := [(6, .int r2), (5, .int (hk (fun e => if e = 1 then 1 else if e = 3 then 2 else 0) r)), (0, .ref b), (1, .ref (gS γ 7 0)), (2, .ref (gS γ 8 0)), (3, .ref (gS γ 3000 0)), (4, .int (nI I))]) hX hl (Nat.le_of_ble_eq_true rfl) rfl dL_law_1422 (fun ls hl => ?_)
  refine rw_aload_n hX hl 4 rfl (Or.inr ⟨_, rfl⟩) dL_law_1424 rfl ?_
  refine rw_cVi hX hR pk_f8_thrown (mc := 0) (ms := 0) ⟨rfl, rfl, (show 1 + 1 ≤ R.frames by omega), (show 8 + (1 + 11) + 64 * 1 ≤ R.locals by omega)⟩ (As := []) (rest := []) rfl (C_f8_thrown l γ ad σ2 _ hth) gw_1074 gw_1075 gw_1076 (rs_recv hX hR 8 0 (C := RX7) (T := TX7) (N := 48) rfl (by decide) (Nat.le_of_ble_eq_true rfl) rfl) rfl hl.1 ca0 (Nat.le_of_ble_eq_true rfl) dL_law_1425 ⟨by omega, by omega⟩ (fun H1 locs1 hR => ?_)
  refine rw_iload hX hl 1 rfl dL_law_1428 ?_
  refine lv_icmp_eq (x := hk (fun e => if e = 1 then 1 else if e = 3 then 2 else 0) r) (y := hk (fun e => if e = 1 then 1 else if e = 3 then 2 else 0) r) (tgt := 1435) hX.1.1 hX.1.2.1 dL_law_1430 (by decide) (fun c0 => ?_) (fun c0 => absurd rfl c0)
  refine rw_iload hX hl 1 rfl dL_law_1435 ?_
  replace hl := lh_sub hl [2, 3, 4, 5, 6, 1, 0] rfl
  refine lv_if_ne (x := hk (fun e => if e = 1 then 1 else if e = 3 then 2 else 0) r) (tgt := 1452) hX.1.1 hX.1.2.1 dL_law_1437 (by decide) (fun c0 => ?_) (fun c0 => ?_)
  · refine lv_goto (tgt := 2230) hX.1.1 hX.1.2.1 dL_law_1452 (by decide) ?_
    exact kk ad ls _ _ (lh_sub hl [0, 1, 2, 3, 4] rfl) hR
  have hv1 := hv c0
  refine rw_aload_n hX hl 3 rfl (Or.inr ⟨_, rfl⟩) dL_law_1440 rfl ?_
  refine lv_iconst (v := 0) hX.1.1 hX.1.2.1 dL_law_1441 rfl ?_
  refine rw_outld hX hR dL_law_1442 ?_
  rw [hv1]
  refine rw_iload hX hl 6 rfl dL_law_1443 ?_
  refine lv_i2l hX.1.1 hX.1.2.1 dL_law_1445 rfl ?_
  refine W.lcmp hX.1.1 hX.1.2.1 dL_law_1446 ?_
  rw [lg_self]
  refine lv_if_eq (x := 0) (tgt := 1452) hX.1.1 hX.1.2.1 dL_law_1447 (by decide) (fun c2 => ?_) (fun c2 => absurd rfl c2)
  refine lv_goto (tgt := 2230) hX.1.1 hX.1.2.1 dL_law_1452 (by decide) ?_
  exact kk ad ls _ _ (lh_sub hl [0, 1, 2, 3, 4] rfl) hR
set_option maxHeartbeats 8000000 in
set_option maxRecDepth 100000 in
theorem LC_19 {p : Program} {l : Launch} (hfl : l.stackTraces = false) {e : Env} {R : Room} {s : State} {m : MethodId} {args : Array Value} {below : List Frame} {meth : Method} {c : Code} {H : Heap} {locs : List Loc} {cells slots : Nat} {Q : State → Prop} {γ : GT} {ad : Nat → Nat → Nat} {σ : St} {b L : Nat} {xs : Nat → Int32} {ls : Array Slot} (hX : CX γ p s m args c cL_law 7 RL) (hsc : SC γ s b L xs) (hRf : 100 ≤ R.frames ∧ 8000 ≤ R.locals) {fu I : Nat} (hI : I + 8 ≤ L) (hR : RS γ ad σ s H locs) (hl : lh ls 7 (lv7 γ b (nI I))) (hf : cells + 1 ≤ R.cells ∧ slots + 6 ≤ R.slots) {r : Except Nat Int32} {σ1 : St} (hw7 : f7_openLine fu (xs (I + 1)) σ = some (r, σ1)) (he : ∀ e, r = .error e → e = 1) {r2 : Int32} {σ2 : St} (hw8 : f8_openLine fu (xs (I + 1)) (hoi σ1 r) = some (r2, σ2)) (hth : f8_thrown fu σ2 = some (hk (fun e => if e = 1 then 1 else 0) r)) (hv : hk (fun e => if e = 1 then 1 else 0) r = 0 → go σ2 = r2.toInt64)
    (kk : ∀ (ad : Nat → Nat → Nat) (ls : Array Slot) (H : Heap) (locs : List Loc), lh ls 7 (lv7 γ b (nI I)) → RS γ ad σ2 s H locs → W p l e R s m args below meth c H locs (cells + 1) (slots + 6) Q (F0 m 2230 ls [])) : W p l e R s m args below meth c H locs cells slots Q (F0 m 1455 ls []) := by
  refine rw_aload_n hX hl 1 rfl (Or.inr ⟨_, rfl⟩) dL_law_1455 rfl ?_
  refine rw_aload_n hX hl 0 rfl (Or.inr ⟨_, rfl⟩) dL_law_1456 rfl ?_
  refine rw_iload hX hl 4 rfl dL_law_1457 ?_
  refine lv_iconst (v := 1) hX.1.1 hX.1.2.1 dL_law_1459 rfl ?_
  refine lv_iadd hX.1.1 hX.1.2.1 dL_law_1460 ?_
  refine rw_scr hX hR.2 hsc (k := I + 1) (nI_plus I 1) (by omega) dL_law_1461 ?_
  refine rw_aload_n hX hl 3 rfl (Or.inr ⟨_, rfl⟩) dL_law_1462 rfl ?_
  refine rw_cSW hX hR (y := yL_openLine) (bytes := cL_openLine) (maxL := 4) (hh := [(0, 9, 12, 13)]) (n := 3) ⟨gw_0, gw_803, by decide, gw_802⟩ (rm := rmo 83 1 6) (mc := 1) (ms := 6) ⟨rfl, rfl, (show 83 + 1 ≤ R.frames by omega), (show 8 + (4 + 11) + 64 * 83 ≤ R.locals by omega)⟩ (As := [.ref (gS γ 7 0), .int (xs (I + 1)), .ref (gS γ 3000 0)]) (rest := []) rfl (L_openLine l hfl γ ad (xs (I + 1)) σ r σ1 hw7 he) gw_801 rfl hl.1 ca0 (Nat.le_of_ble_eq_true rfl) dL_law_1463 hf (fun ad H1 locs1 hR => ?_)
  refine rw_istore (i := 5) (lv' := [(5, .int (hk (fun e => if e = 1 then 1 else 0) r)), (0, .ref b), (1, .ref (gS γ 7 0)), (2, .ref (gS γ 8 0)), (3, .ref (gS γ 3000 0)), (4, .int (nI I))]) hX hl (Nat.le_of_ble_eq_true rfl) rfl dL_law_1466 (fun ls hl => ?_)
  refine rw_aload_n hX hl 3 rfl (Or.inr ⟨_, rfl⟩) dL_law_1468 rfl ?_
  refine rw_aload_n hX hl 1 rfl (Or.inr ⟨_, rfl⟩) dL_law_1469 rfl ?_
  refine rw_iload hX hl 5 rfl dL_law_1470 ?_
  refine lv_iconst (v := 1) hX.1.1 hX.1.2.1 dL_law_1472 rfl ?_
  refine lv_iadd hX.1.1 hX.1.2.1 dL_law_1473 ?_
  refine rw_scr hX hR.2 hsc (k := I + 1) (nI_plus I 1) (by omega) dL_law_1474 ?_
  refine rw_cVi hX hR pk_f8_openLine (mc := 0) (ms := 0) ⟨rfl, rfl, (show 6 + 1 ≤ R.frames by omega), (show 8 + (3 + 11) + 64 * 6 ≤ R.locals by omega)⟩ (As := [.int (xs (I + 1))]) (rest := []) rfl (C_f8_openLine l γ ad (xs (I + 1)) (hoi σ1 r) r2 σ2 hw8) gw_1280 gw_1281 gw_1282 (rs_recv hX hR 8 0 (C := RX7) (T := TX7) (N := 48) rfl (by decide) (Nat.le_of_ble_eq_true rfl) rfl) rfl hl.1 ca0 (Nat.le_of_ble_eq_true rfl) dL_law_1475 ⟨by omega, by omega⟩ (fun H1 locs1 hR => ?_)
  refine rw_istore (i := 6) (lv' := [(6, .int r2), (5, .int (hk (fun e => if e = 1 then 1 else 0) r)), (0, .ref b), (1, .ref (gS γ 7 0)), (2, .ref (gS γ 8 0)), (3, .ref (gS γ 3000 0)), (4, .int (nI I))]) hX hl (Nat.le_of_ble_eq_true rfl) rfl dL_law_1478 (fun ls hl => ?_)
  refine rw_aload_n hX hl 4 rfl (Or.inr ⟨_, rfl⟩) dL_law_1480 rfl ?_
  refine rw_cVi hX hR pk_f8_thrown (mc := 0) (ms := 0) ⟨rfl, rfl, (show 1 + 1 ≤ R.frames by omega), (show 8 + (1 + 11) + 64 * 1 ≤ R.locals by omega)⟩ (As := []) (rest := []) rfl (C_f8_thrown l γ ad σ2 _ hth) gw_1074 gw_1075 gw_1076 (rs_recv hX hR 8 0 (C := RX7) (T := TX7) (N := 48) rfl (by decide) (Nat.le_of_ble_eq_true rfl) rfl) rfl hl.1 ca0 (Nat.le_of_ble_eq_true rfl) dL_law_1481 ⟨by omega, by omega⟩ (fun H1 locs1 hR => ?_)
  refine rw_iload hX hl 1 rfl dL_law_1484 ?_
  refine lv_icmp_eq (x := hk (fun e => if e = 1 then 1 else 0) r) (y := hk (fun e => if e = 1 then 1 else 0) r) (tgt := 1491) hX.1.1 hX.1.2.1 dL_law_1486 (by decide) (fun c0 => ?_) (fun c0 => absurd rfl c0)
  refine rw_iload hX hl 1 rfl dL_law_1491 ?_
  replace hl := lh_sub hl [2, 3, 4, 5, 6, 1, 0] rfl
  refine lv_if_ne (x := hk (fun e => if e = 1 then 1 else 0) r) (tgt := 1508) hX.1.1 hX.1.2.1 dL_law_1493 (by decide) (fun c0 => ?_) (fun c0 => ?_)
  · refine lv_goto (tgt := 2230) hX.1.1 hX.1.2.1 dL_law_1508 (by decide) ?_
    exact kk ad ls _ _ (lh_sub hl [0, 1, 2, 3, 4] rfl) hR
  have hv1 := hv c0
  refine rw_aload_n hX hl 3 rfl (Or.inr ⟨_, rfl⟩) dL_law_1496 rfl ?_
  refine lv_iconst (v := 0) hX.1.1 hX.1.2.1 dL_law_1497 rfl ?_
  refine rw_outld hX hR dL_law_1498 ?_
  rw [hv1]
  refine rw_iload hX hl 6 rfl dL_law_1499 ?_
  refine lv_i2l hX.1.1 hX.1.2.1 dL_law_1501 rfl ?_
  refine W.lcmp hX.1.1 hX.1.2.1 dL_law_1502 ?_
  rw [lg_self]
  refine lv_if_eq (x := 0) (tgt := 1508) hX.1.1 hX.1.2.1 dL_law_1503 (by decide) (fun c2 => ?_) (fun c2 => absurd rfl c2)
  refine lv_goto (tgt := 2230) hX.1.1 hX.1.2.1 dL_law_1508 (by decide) ?_
  exact kk ad ls _ _ (lh_sub hl [0, 1, 2, 3, 4] rfl) hR
set_option maxHeartbeats 8000000 in
set_option maxRecDepth 100000 in
theorem LC_20 {p : Program} {l : Launch} (hfl : l.stackTraces = false) {e : Env} {R : Room} {s : State} {m : MethodId} {args : Array Value} {below : List Frame} {meth : Method} {c : Code} {H : Heap} {locs : List Loc} {cells slots : Nat} {Q : State → Prop} {γ : GT} {ad : Nat → Nat → Nat} {σ : St} {b L : Nat} {xs : Nat → Int32} {ls : Array Slot} (hX : CX γ p s m args c cL_law 7 RL) (hsc : SC γ s b L xs) (hRf : 100 ≤ R.frames ∧ 8000 ≤ R.locals) {fu I : Nat} (hI : I + 8 ≤ L) (hR : RS γ ad σ s H locs) (hl : lh ls 7 (lv7 γ b (nI I))) (hf : cells + 1 ≤ R.cells ∧ slots + 6 ≤ R.slots) {r : Except Nat Bool} (hw7 : f7_isThere fu (xs (I + 1)) σ = some r) (he : ∀ e, r = .error e → e = 1) {r2 : Bool} {σ2 : St} (hw8 : f8_isThere fu (xs (I + 1)) (hoz σ r) = some (r2, σ2)) (hth : f8_thrown fu σ2 = some (hk (fun e => if e = 1 then 1 else 0) r)) (hv : hk (fun e => if e = 1 then 1 else 0) r = 0 → go σ2 = (if r2 = true then 1 else 0))
    (kk : ∀ (ad : Nat → Nat → Nat) (ls : Array Slot) (H : Heap) (locs : List Loc), lh ls 7 (lv7 γ b (nI I)) → RS γ ad σ2 s H locs → W p l e R s m args below meth c H locs (cells + 1) (slots + 6) Q (F0 m 2230 ls [])) : W p l e R s m args below meth c H locs cells slots Q (F0 m 1511 ls []) := by
  refine rw_aload_n hX hl 1 rfl (Or.inr ⟨_, rfl⟩) dL_law_1511 rfl ?_
  refine rw_aload_n hX hl 0 rfl (Or.inr ⟨_, rfl⟩) dL_law_1512 rfl ?_
  refine rw_iload hX hl 4 rfl dL_law_1513 ?_
  refine lv_iconst (v := 1) hX.1.1 hX.1.2.1 dL_law_1515 rfl ?_
  refine lv_iadd hX.1.1 hX.1.2.1 dL_law_1516 ?_
  refine rw_scr hX hR.2 hsc (k := I + 1) (nI_plus I 1) (by omega) dL_law_1517 ?_
  refine rw_aload_n hX hl 3 rfl (Or.inr ⟨_, rfl⟩) dL_law_1518 rfl ?_
  refine rw_cSW hX hR (y := yL_isThere) (bytes := cL_isThere) (maxL := 4) (hh := [(0, 16, 19, 13)]) (n := 3) ⟨gw_0, gw_810, by decide, gw_809⟩ (rm := rmo 17 1 6) (mc := 1) (ms := 6) ⟨rfl, rfl, (show 17 + 1 ≤ R.frames by omega), (show 8 + (4 + 11) + 64 * 17 ≤ R.locals by omega)⟩ (As := [.ref (gS γ 7 0), .int (xs (I + 1)), .ref (gS γ 3000 0)]) (rest := []) rfl (L_isThere l hfl γ ad (xs (I + 1)) σ r hw7 he) gw_808 rfl hl.1 ca0 (Nat.le_of_ble_eq_true rfl) dL_law_1519 hf (fun ad H1 locs1 hR => ?_)
  refine rw_istore (i := 5) (lv' := [(5, .int (hk (fun e => if e = 1 then 1 else 0) r)), (0, .ref b), (1, .ref (gS γ 7 0)), (2, .ref (gS γ 8 0)), (3, .ref (gS γ 3000 0)), (4, .int (nI I))]) hX hl (Nat.le_of_ble_eq_true rfl) rfl dL_law_1522 (fun ls hl => ?_)
  refine rw_aload_n hX hl 3 rfl (Or.inr ⟨_, rfl⟩) dL_law_1524 rfl ?_
  refine rw_aload_n hX hl 1 rfl (Or.inr ⟨_, rfl⟩) dL_law_1525 rfl ?_
  refine rw_iload hX hl 5 rfl dL_law_1526 ?_
  refine lv_iconst (v := 1) hX.1.1 hX.1.2.1 dL_law_1528 rfl ?_
  refine lv_iadd hX.1.1 hX.1.2.1 dL_law_1529 ?_
  refine rw_scr hX hR.2 hsc (k := I + 1) (nI_plus I 1) (by omega) dL_law_1530 ?_
  refine rw_cVi hX hR pk_f8_isThere (mc := 0) (ms := 0) ⟨rfl, rfl, (show 3 + 1 ≤ R.frames by omega), (show 8 + (2 + 11) + 64 * 3 ≤ R.locals by omega)⟩ (As := [.int (xs (I + 1))]) (rest := []) rfl (C_f8_isThere l γ ad (xs (I + 1)) (hoz σ r) r2 σ2 hw8) gw_1284 gw_1285 gw_1286 (rs_recv hX hR 8 0 (C := RX7) (T := TX7) (N := 48) rfl (by decide) (Nat.le_of_ble_eq_true rfl) rfl) rfl hl.1 ca0 (Nat.le_of_ble_eq_true rfl) dL_law_1531 ⟨by omega, by omega⟩ (fun H1 locs1 hR => ?_)
  refine rw_istore (i := 6) (lv' := [(6, .int (b2i r2)), (5, .int (hk (fun e => if e = 1 then 1 else 0) r)), (0, .ref b), (1, .ref (gS γ 7 0)), (2, .ref (gS γ 8 0)), (3, .ref (gS γ 3000 0)), (4, .int (nI I))]) hX hl (Nat.le_of_ble_eq_true rfl) rfl dL_law_1534 (fun ls hl => ?_)
  refine rw_aload_n hX hl 4 rfl (Or.inr ⟨_, rfl⟩) dL_law_1536 rfl ?_
  refine rw_cVi hX hR pk_f8_thrown (mc := 0) (ms := 0) ⟨rfl, rfl, (show 1 + 1 ≤ R.frames by omega), (show 8 + (1 + 11) + 64 * 1 ≤ R.locals by omega)⟩ (As := []) (rest := []) rfl (C_f8_thrown l γ ad σ2 _ hth) gw_1074 gw_1075 gw_1076 (rs_recv hX hR 8 0 (C := RX7) (T := TX7) (N := 48) rfl (by decide) (Nat.le_of_ble_eq_true rfl) rfl) rfl hl.1 ca0 (Nat.le_of_ble_eq_true rfl) dL_law_1537 ⟨by omega, by omega⟩ (fun H1 locs1 hR => ?_)
  refine rw_iload hX hl 1 rfl dL_law_1540 ?_
  refine lv_icmp_eq (x := hk (fun e => if e = 1 then 1 else 0) r) (y := hk (fun e => if e = 1 then 1 else 0) r) (tgt := 1547) hX.1.1 hX.1.2.1 dL_law_1542 (by decide) (fun c0 => ?_) (fun c0 => absurd rfl c0)
  refine rw_iload hX hl 1 rfl dL_law_1547 ?_
  replace hl := lh_sub hl [2, 3, 4, 5, 6, 1, 0] rfl
  refine lv_if_ne (x := hk (fun e => if e = 1 then 1 else 0) r) (tgt := 1571) hX.1.1 hX.1.2.1 dL_law_1549 (by decide) (fun c0 => ?_) (fun c0 => ?_)
  · refine lv_goto (tgt := 2230) hX.1.1 hX.1.2.1 dL_law_1571 (by decide) ?_
    exact kk ad ls _ _ (lh_sub hl [0, 1, 2, 3, 4] rfl) hR
  have hv1 := hv c0
  refine rw_aload_n hX hl 3 rfl (Or.inr ⟨_, rfl⟩) dL_law_1552 rfl ?_
  refine lv_iconst (v := 0) hX.1.1 hX.1.2.1 dL_law_1553 rfl ?_
  refine rw_outld hX hR dL_law_1554 ?_
  rw [hv1]
  refine rw_iload hX hl 6 rfl dL_law_1555 ?_
  refine rw_ifeqZ (b := r2) (tgt := 1564) hX dL_law_1557 (by decide) (fun c1 => ?_) (fun c1 => ?_)
  · rw [if_neg c1]
    refine lv_lconst (v := 0) hX.1.1 hX.1.2.1 dL_law_1564 rfl ?_
    refine W.lcmp hX.1.1 hX.1.2.1 dL_law_1565 ?_
    rw [lg_self]
    refine lv_if_eq (x := 0) (tgt := 1571) hX.1.1 hX.1.2.1 dL_law_1566 (by decide) (fun c2 => ?_) (fun c2 => absurd rfl c2)
    refine lv_goto (tgt := 2230) hX.1.1 hX.1.2.1 dL_law_1571 (by decide) ?_
    exact kk ad ls _ _ (lh_sub hl [0, 1, 2, 3, 4] rfl) hR
  · rw [if_pos c1]
    refine lv_lconst (v := 1) hX.1.1 hX.1.2.1 dL_law_1560 rfl ?_
    refine lv_goto (tgt := 1565) hX.1.1 hX.1.2.1 dL_law_1561 (by decide) ?_
    refine W.lcmp hX.1.1 hX.1.2.1 dL_law_1565 ?_
    rw [lg_self]
    refine lv_if_eq (x := 0) (tgt := 1571) hX.1.1 hX.1.2.1 dL_law_1566 (by decide) (fun c2 => ?_) (fun c2 => absurd rfl c2)
    refine lv_goto (tgt := 2230) hX.1.1 hX.1.2.1 dL_law_1571 (by decide) ?_
    exact kk ad ls _ _ (lh_sub hl [0, 1, 2, 3, 4] rfl) hR
set_option maxHeartbeats 8000000 in
set_option maxRecDepth 100000 in
theorem LC_21 {p : Program} {l : Launch} (hfl : l.stackTraces = false) {e : Env} {R : Room} {s : State} {m : MethodId} {args : Array Value} {below : List Frame} {meth : Method} {c : Code} {H : Heap} {locs : List Loc} {cells slots : Nat} {Q : State → Prop} {γ : GT} {ad : Nat → Nat → Nat} {σ : St} {b L : Nat} {xs : Nat → Int32} {ls : Array Slot} (hX : CX γ p s m args c cL_law 7 RL) (hsc : SC γ s b L xs) (hRf : 100 ≤ R.frames ∧ 8000 ≤ R.locals) {fu I : Nat} (hI : I + 8 ≤ L) (hR : RS γ ad σ s H locs) (hl : lh ls 7 (lv7 γ b (nI I))) (hf : cells + 1 ≤ R.cells ∧ slots + 6 ≤ R.slots) {r : Except Nat Int32} (hw7 : f7_reason fu (xs (I + 1)) σ = some r) (he : ∀ e, r = .error e → e = 1) {r2 : Int32} {σ2 : St} (hw8 : f8_reason fu (xs (I + 1)) (hoi σ r) = some (r2, σ2)) (hth : f8_thrown fu σ2 = some (hk (fun e => if e = 1 then 1 else 0) r)) (hv : hk (fun e => if e = 1 then 1 else 0) r = 0 → go σ2 = r2.toInt64)
    (kk : ∀ (ad : Nat → Nat → Nat) (ls : Array Slot) (H : Heap) (locs : List Loc), lh ls 7 (lv7 γ b (nI I)) → RS γ ad σ2 s H locs → W p l e R s m args below meth c H locs (cells + 1) (slots + 6) Q (F0 m 2230 ls [])) : W p l e R s m args below meth c H locs cells slots Q (F0 m 1574 ls []) := by
  refine rw_aload_n hX hl 1 rfl (Or.inr ⟨_, rfl⟩) dL_law_1574 rfl ?_
  refine rw_aload_n hX hl 0 rfl (Or.inr ⟨_, rfl⟩) dL_law_1575 rfl ?_
  refine rw_iload hX hl 4 rfl dL_law_1576 ?_
  refine lv_iconst (v := 1) hX.1.1 hX.1.2.1 dL_law_1578 rfl ?_
  refine lv_iadd hX.1.1 hX.1.2.1 dL_law_1579 ?_
  refine rw_scr hX hR.2 hsc (k := I + 1) (nI_plus I 1) (by omega) dL_law_1580 ?_
  refine rw_aload_n hX hl 3 rfl (Or.inr ⟨_, rfl⟩) dL_law_1581 rfl ?_
  refine rw_cSW hX hR (y := yL_reason) (bytes := cL_reason) (maxL := 4) (hh := [(0, 9, 12, 13)]) (n := 3) ⟨gw_0, gw_817, by decide, gw_816⟩ (rm := rmo 19 1 6) (mc := 1) (ms := 6) ⟨rfl, rfl, (show 19 + 1 ≤ R.frames by omega), (show 8 + (4 + 11) + 64 * 19 ≤ R.locals by omega)⟩ (As := [.ref (gS γ 7 0), .int (xs (I + 1)), .ref (gS γ 3000 0)]) (rest := []) rfl (L_reason l hfl γ ad (xs (I + 1)) σ r hw7 he) gw_815 rfl hl.1 ca0 (Nat.le_of_ble_eq_true rfl) dL_law_1582 hf (fun ad H1 locs1 hR => ?_)
  refine rw_istore (i := 5) (lv' := [(5, .int (hk (fun e => if e = 1 then 1 else 0) r)), (0, .ref b), (1, .ref (gS γ 7 0)), (2, .ref (gS γ 8 0)), (3, .ref (gS γ 3000 0)), (4, .int (nI I))]) hX hl (Nat.le_of_ble_eq_true rfl) rfl dL_law_1585 (fun ls hl => ?_)
  refine rw_aload_n hX hl 3 rfl (Or.inr ⟨_, rfl⟩) dL_law_1587 rfl ?_
  refine rw_aload_n hX hl 1 rfl (Or.inr ⟨_, rfl⟩) dL_law_1588 rfl ?_
  refine rw_iload hX hl 5 rfl dL_law_1589 ?_
  refine lv_iconst (v := 1) hX.1.1 hX.1.2.1 dL_law_1591 rfl ?_
  refine lv_iadd hX.1.1 hX.1.2.1 dL_law_1592 ?_
  refine rw_scr hX hR.2 hsc (k := I + 1) (nI_plus I 1) (by omega) dL_law_1593 ?_
  refine rw_cVi hX hR pk_f8_reason (mc := 0) (ms := 0) ⟨rfl, rfl, (show 5 + 1 ≤ R.frames by omega), (show 8 + (3 + 11) + 64 * 5 ≤ R.locals by omega)⟩ (As := [.int (xs (I + 1))]) (rest := []) rfl (C_f8_reason l γ ad (xs (I + 1)) (hoi σ r) r2 σ2 hw8) gw_1288 gw_1289 gw_1290 (rs_recv hX hR 8 0 (C := RX7) (T := TX7) (N := 48) rfl (by decide) (Nat.le_of_ble_eq_true rfl) rfl) rfl hl.1 ca0 (Nat.le_of_ble_eq_true rfl) dL_law_1594 ⟨by omega, by omega⟩ (fun H1 locs1 hR => ?_)
  refine rw_istore (i := 6) (lv' := [(6, .int r2), (5, .int (hk (fun e => if e = 1 then 1 else 0) r)), (0, .ref b), (1, .ref (gS γ 7 0)), (2, .ref (gS γ 8 0)), (3, .ref (gS γ 3000 0)), (4, .int (nI I))]) hX hl (Nat.le_of_ble_eq_true rfl) rfl dL_law_1597 (fun ls hl => ?_)
  refine rw_aload_n hX hl 4 rfl (Or.inr ⟨_, rfl⟩) dL_law_1599 rfl ?_
  refine rw_cVi hX hR pk_f8_thrown (mc := 0) (ms := 0) ⟨rfl, rfl, (show 1 + 1 ≤ R.frames by omega), (show 8 + (1 + 11) + 64 * 1 ≤ R.locals by omega)⟩ (As := []) (rest := []) rfl (C_f8_thrown l γ ad σ2 _ hth) gw_1074 gw_1075 gw_1076 (rs_recv hX hR 8 0 (C := RX7) (T := TX7) (N := 48) rfl (by decide) (Nat.le_of_ble_eq_true rfl) rfl) rfl hl.1 ca0 (Nat.le_of_ble_eq_true rfl) dL_law_1600 ⟨by omega, by omega⟩ (fun H1 locs1 hR => ?_)
  refine rw_iload hX hl 1 rfl dL_law_1603 ?_
  refine lv_icmp_eq (x := hk (fun e => if e = 1 then 1 else 0) r) (y := hk (fun e => if e = 1 then 1 else 0) r) (tgt := 1610) hX.1.1 hX.1.2.1 dL_law_1605 (by decide) (fun c0 => ?_) (fun c0 => absurd rfl c0)
  refine rw_iload hX hl 1 rfl dL_law_1610 ?_
  replace hl := lh_sub hl [2, 3, 4, 5, 6, 1, 0] rfl
  refine lv_if_ne (x := hk (fun e => if e = 1 then 1 else 0) r) (tgt := 1627) hX.1.1 hX.1.2.1 dL_law_1612 (by decide) (fun c0 => ?_) (fun c0 => ?_)
  · refine lv_goto (tgt := 2230) hX.1.1 hX.1.2.1 dL_law_1627 (by decide) ?_
    exact kk ad ls _ _ (lh_sub hl [0, 1, 2, 3, 4] rfl) hR
  have hv1 := hv c0
  refine rw_aload_n hX hl 3 rfl (Or.inr ⟨_, rfl⟩) dL_law_1615 rfl ?_
  refine lv_iconst (v := 0) hX.1.1 hX.1.2.1 dL_law_1616 rfl ?_
  refine rw_outld hX hR dL_law_1617 ?_
  rw [hv1]
  refine rw_iload hX hl 6 rfl dL_law_1618 ?_
  refine lv_i2l hX.1.1 hX.1.2.1 dL_law_1620 rfl ?_
  refine W.lcmp hX.1.1 hX.1.2.1 dL_law_1621 ?_
  rw [lg_self]
  refine lv_if_eq (x := 0) (tgt := 1627) hX.1.1 hX.1.2.1 dL_law_1622 (by decide) (fun c2 => ?_) (fun c2 => absurd rfl c2)
  refine lv_goto (tgt := 2230) hX.1.1 hX.1.2.1 dL_law_1627 (by decide) ?_
  exact kk ad ls _ _ (lh_sub hl [0, 1, 2, 3, 4] rfl) hR
set_option maxHeartbeats 8000000 in
set_option maxRecDepth 100000 in
theorem LC_22 {p : Program} {l : Launch} (hfl : l.stackTraces = false) {e : Env} {R : Room} {s : State} {m : MethodId} {args : Array Value} {below : List Frame} {meth : Method} {c : Code} {H : Heap} {locs : List Loc} {cells slots : Nat} {Q : State → Prop} {γ : GT} {ad : Nat → Nat → Nat} {σ : St} {b L : Nat} {xs : Nat → Int32} {ls : Array Slot} (hX : CX γ p s m args c cL_law 7 RL) (hsc : SC γ s b L xs) (hRf : 100 ≤ R.frames ∧ 8000 ≤ R.locals) {fu I : Nat} (hI : I + 8 ≤ L) (hR : RS γ ad σ s H locs) (hl : lh ls 7 (lv7 γ b (nI I))) (hf : cells + 1 ≤ R.cells ∧ slots + 6 ≤ R.slots) {r : Except Nat Int32} (hw7 : f7_driverOf fu (xs (I + 1)) σ = some r) (he : ∀ e, r = .error e → e = 1) {r2 : Int32} {σ2 : St} (hw8 : f8_driverOf fu (xs (I + 1)) (hoi σ r) = some (r2, σ2)) (hth : f8_thrown fu σ2 = some (hk (fun e => if e = 1 then 1 else 0) r)) (hv : hk (fun e => if e = 1 then 1 else 0) r = 0 → go σ2 = r2.toInt64)
    (kk : ∀ (ad : Nat → Nat → Nat) (ls : Array Slot) (H : Heap) (locs : List Loc), lh ls 7 (lv7 γ b (nI I)) → RS γ ad σ2 s H locs → W p l e R s m args below meth c H locs (cells + 1) (slots + 6) Q (F0 m 2230 ls [])) : W p l e R s m args below meth c H locs cells slots Q (F0 m 1630 ls []) := by
  refine rw_aload_n hX hl 1 rfl (Or.inr ⟨_, rfl⟩) dL_law_1630 rfl ?_
  refine rw_aload_n hX hl 0 rfl (Or.inr ⟨_, rfl⟩) dL_law_1631 rfl ?_
  refine rw_iload hX hl 4 rfl dL_law_1632 ?_
  refine lv_iconst (v := 1) hX.1.1 hX.1.2.1 dL_law_1634 rfl ?_
  refine lv_iadd hX.1.1 hX.1.2.1 dL_law_1635 ?_
  refine rw_scr hX hR.2 hsc (k := I + 1) (nI_plus I 1) (by omega) dL_law_1636 ?_
  refine rw_aload_n hX hl 3 rfl (Or.inr ⟨_, rfl⟩) dL_law_1637 rfl ?_
  refine rw_cSW hX hR (y := yL_driverOf) (bytes := cL_driverOf) (maxL := 4) (hh := [(0, 9, 12, 13)]) (n := 3) ⟨gw_0, gw_824, by decide, gw_823⟩ (rm := rmo 17 1 6) (mc := 1) (ms := 6) ⟨rfl, rfl, (show 17 + 1 ≤ R.frames by omega), (show 8 + (4 + 11) + 64 * 17 ≤ R.locals by omega)⟩ (As := [.ref (gS γ 7 0), .int (xs (I + 1)), .ref (gS γ 3000 0)]) (rest := []) rfl (L_driverOf l hfl γ ad (xs (I + 1)) σ r hw7 he) gw_822 rfl hl.1 ca0 (Nat.le_of_ble_eq_true rfl) dL_law_1638 hf (fun ad H1 locs1 hR => ?_)
  refine rw_istore (i := 5) (lv' := [(5, .int (hk (fun e => if e = 1 then 1 else 0) r)), (0, .ref b), (1, .ref (gS γ 7 0)), (2, .ref (gS γ 8 0)), (3, .ref (gS γ 3000 0)), (4, .int (nI I))]) hX hl (Nat.le_of_ble_eq_true rfl) rfl dL_law_1641 (fun ls hl => ?_)
  refine rw_aload_n hX hl 3 rfl (Or.inr ⟨_, rfl⟩) dL_law_1643 rfl ?_
  refine rw_aload_n hX hl 1 rfl (Or.inr ⟨_, rfl⟩) dL_law_1644 rfl ?_
  refine rw_iload hX hl 5 rfl dL_law_1645 ?_
  refine lv_iconst (v := 1) hX.1.1 hX.1.2.1 dL_law_1647 rfl ?_
  refine lv_iadd hX.1.1 hX.1.2.1 dL_law_1648 ?_
  refine rw_scr hX hR.2 hsc (k := I + 1) (nI_plus I 1) (by omega) dL_law_1649 ?_
  refine rw_cVi hX hR pk_f8_driverOf (mc := 0) (ms := 0) ⟨rfl, rfl, (show 3 + 1 ≤ R.frames by omega), (show 8 + (2 + 11) + 64 * 3 ≤ R.locals by omega)⟩ (As := [.int (xs (I + 1))]) (rest := []) rfl (C_f8_driverOf l γ ad (xs (I + 1)) (hoi σ r) r2 σ2 hw8) gw_1292 gw_1293 gw_1294 (rs_recv hX hR 8 0 (C := RX7) (T := TX7) (N := 48) rfl (by decide) (Nat.le_of_ble_eq_true rfl) rfl) rfl hl.1 ca0 (Nat.le_of_ble_eq_true rfl) dL_law_1650 ⟨by omega, by omega⟩ (fun H1 locs1 hR => ?_)
  refine rw_istore (i := 6) (lv' := [(6, .int r2), (5, .int (hk (fun e => if e = 1 then 1 else 0) r)), (0, .ref b), (1, .ref (gS γ 7 0)), (2, .ref (gS γ 8 0)), (3, .ref (gS γ 3000 0)), (4, .int (nI I))]) hX hl (Nat.le_of_ble_eq_true rfl) rfl dL_law_1653 (fun ls hl => ?_)
  refine rw_aload_n hX hl 4 rfl (Or.inr ⟨_, rfl⟩) dL_law_1655 rfl ?_
  refine rw_cVi hX hR pk_f8_thrown (mc := 0) (ms := 0) ⟨rfl, rfl, (show 1 + 1 ≤ R.frames by omega), (show 8 + (1 + 11) + 64 * 1 ≤ R.locals by omega)⟩ (As := []) (rest := []) rfl (C_f8_thrown l γ ad σ2 _ hth) gw_1074 gw_1075 gw_1076 (rs_recv hX hR 8 0 (C := RX7) (T := TX7) (N := 48) rfl (by decide) (Nat.le_of_ble_eq_true rfl) rfl) rfl hl.1 ca0 (Nat.le_of_ble_eq_true rfl) dL_law_1656 ⟨by omega, by omega⟩ (fun H1 locs1 hR => ?_)
  refine rw_iload hX hl 1 rfl dL_law_1659 ?_
  refine lv_icmp_eq (x := hk (fun e => if e = 1 then 1 else 0) r) (y := hk (fun e => if e = 1 then 1 else 0) r) (tgt := 1666) hX.1.1 hX.1.2.1 dL_law_1661 (by decide) (fun c0 => ?_) (fun c0 => absurd rfl c0)
  refine rw_iload hX hl 1 rfl dL_law_1666 ?_
  replace hl := lh_sub hl [2, 3, 4, 5, 6, 1, 0] rfl
  refine lv_if_ne (x := hk (fun e => if e = 1 then 1 else 0) r) (tgt := 1683) hX.1.1 hX.1.2.1 dL_law_1668 (by decide) (fun c0 => ?_) (fun c0 => ?_)
  · refine lv_goto (tgt := 2230) hX.1.1 hX.1.2.1 dL_law_1683 (by decide) ?_
    exact kk ad ls _ _ (lh_sub hl [0, 1, 2, 3, 4] rfl) hR
  have hv1 := hv c0
  refine rw_aload_n hX hl 3 rfl (Or.inr ⟨_, rfl⟩) dL_law_1671 rfl ?_
  refine lv_iconst (v := 0) hX.1.1 hX.1.2.1 dL_law_1672 rfl ?_
  refine rw_outld hX hR dL_law_1673 ?_
  rw [hv1]
  refine rw_iload hX hl 6 rfl dL_law_1674 ?_
  refine lv_i2l hX.1.1 hX.1.2.1 dL_law_1676 rfl ?_
  refine W.lcmp hX.1.1 hX.1.2.1 dL_law_1677 ?_
  rw [lg_self]
  refine lv_if_eq (x := 0) (tgt := 1683) hX.1.1 hX.1.2.1 dL_law_1678 (by decide) (fun c2 => ?_) (fun c2 => absurd rfl c2)
  refine lv_goto (tgt := 2230) hX.1.1 hX.1.2.1 dL_law_1683 (by decide) ?_
  exact kk ad ls _ _ (lh_sub hl [0, 1, 2, 3, 4] rfl) hR
set_option maxHeartbeats 8000000 in
set_option maxRecDepth 100000 in
theorem LC_23 {p : Program} {l : Launch} (hfl : l.stackTraces = false) {e : Env} {R : Room} {s : State} {m : MethodId} {args : Array Value} {below : List Frame} {meth : Method} {c : Code} {H : Heap} {locs : List Loc} {cells slots : Nat} {Q : State → Prop} {γ : GT} {ad : Nat → Nat → Nat} {σ : St} {b L : Nat} {xs : Nat → Int32} {ls : Array Slot} (hX : CX γ p s m args c cL_law 7 RL) (hsc : SC γ s b L xs) (hRf : 100 ≤ R.frames ∧ 8000 ≤ R.locals) {fu I : Nat} (hI : I + 8 ≤ L) (hR : RS γ ad σ s H locs) (hl : lh ls 7 (lv7 γ b (nI I))) (hf : cells + 1 ≤ R.cells ∧ slots + 6 ≤ R.slots) {r : Except Nat Int32} (hw7 : f7_window fu (xs (I + 1)) σ = some r) (he : ∀ e, r = .error e → e = 1) {r2 : Int32} {σ2 : St} (hw8 : f8_window fu (xs (I + 1)) (hoi σ r) = some (r2, σ2)) (hth : f8_thrown fu σ2 = some (hk (fun e => if e = 1 then 1 else 0) r)) (hv : hk (fun e => if e = 1 then 1 else 0) r = 0 → go σ2 = r2.toInt64)
    (kk : ∀ (ad : Nat → Nat → Nat) (ls : Array Slot) (H : Heap) (locs : List Loc), lh ls 7 (lv7 γ b (nI I)) → RS γ ad σ2 s H locs → W p l e R s m args below meth c H locs (cells + 1) (slots + 6) Q (F0 m 2230 ls [])) : W p l e R s m args below meth c H locs cells slots Q (F0 m 1686 ls []) := by
  refine rw_aload_n hX hl 1 rfl (Or.inr ⟨_, rfl⟩) dL_law_1686 rfl ?_
  refine rw_aload_n hX hl 0 rfl (Or.inr ⟨_, rfl⟩) dL_law_1687 rfl ?_
  refine rw_iload hX hl 4 rfl dL_law_1688 ?_
  refine lv_iconst (v := 1) hX.1.1 hX.1.2.1 dL_law_1690 rfl ?_
  refine lv_iadd hX.1.1 hX.1.2.1 dL_law_1691 ?_
  refine rw_scr hX hR.2 hsc (k := I + 1) (nI_plus I 1) (by omega) dL_law_1692 ?_
  refine rw_aload_n hX hl 3 rfl (Or.inr ⟨_, rfl⟩) dL_law_1693 rfl ?_
  refine rw_cSW hX hR (y := yL_window) (bytes := cL_window) (maxL := 4) (hh := [(0, 9, 12, 13)]) (n := 3) ⟨gw_0, gw_831, by decide, gw_830⟩ (rm := rmo 17 1 6) (mc := 1) (ms := 6) ⟨rfl, rfl, (show 17 + 1 ≤ R.frames by omega), (show 8 + (4 + 11) + 64 * 17 ≤ R.locals by omega)⟩ (As := [.ref (gS γ 7 0), .int (xs (I + 1)), .ref (gS γ 3000 0)]) (rest := []) rfl (L_window l hfl γ ad (xs (I + 1)) σ r hw7 he) gw_829 rfl hl.1 ca0 (Nat.le_of_ble_eq_true rfl) dL_law_1694 hf (fun ad H1 locs1 hR => ?_)
  refine rw_istore (i := 5) (lv' := [(5, .int (hk (fun e => if e = 1 then 1 else 0) r)), (0, .ref b), (1, .ref (gS γ 7 0)), (2, .ref (gS γ 8 0)), (3, .ref (gS γ 3000 0)), (4, .int (nI I))]) hX hl (Nat.le_of_ble_eq_true rfl) rfl dL_law_1697 (fun ls hl => ?_)
  refine rw_aload_n hX hl 3 rfl (Or.inr ⟨_, rfl⟩) dL_law_1699 rfl ?_
  refine rw_aload_n hX hl 1 rfl (Or.inr ⟨_, rfl⟩) dL_law_1700 rfl ?_
  refine rw_iload hX hl 5 rfl dL_law_1701 ?_
  refine lv_iconst (v := 1) hX.1.1 hX.1.2.1 dL_law_1703 rfl ?_
  refine lv_iadd hX.1.1 hX.1.2.1 dL_law_1704 ?_
  refine rw_scr hX hR.2 hsc (k := I + 1) (nI_plus I 1) (by omega) dL_law_1705 ?_
  refine rw_cVi hX hR pk_f8_window (mc := 0) (ms := 0) ⟨rfl, rfl, (show 3 + 1 ≤ R.frames by omega), (show 8 + (2 + 11) + 64 * 3 ≤ R.locals by omega)⟩ (As := [.int (xs (I + 1))]) (rest := []) rfl (C_f8_window l γ ad (xs (I + 1)) (hoi σ r) r2 σ2 hw8) gw_1296 gw_1297 gw_1298 (rs_recv hX hR 8 0 (C := RX7) (T := TX7) (N := 48) rfl (by decide) (Nat.le_of_ble_eq_true rfl) rfl) rfl hl.1 ca0 (Nat.le_of_ble_eq_true rfl) dL_law_1706 ⟨by omega, by omega⟩ (fun H1 locs1 hR => ?_)
  refine rw_istore (i := 6) (lv' := [(6, .int r2), (5, .int (hk (fun e => if e = 1 then 1 else 0) r)), (0, .ref b), (1, .ref (gS γ 7 0)), (2, .ref (gS γ 8 0)), (3, .ref (gS γ 3000 0)), (4, .int (nI I))]) hX hl (Nat.le_of_ble_eq_true rfl) rfl dL_law_1709 (fun ls hl => ?_)
  refine rw_aload_n hX hl 4 rfl (Or.inr ⟨_, rfl⟩) dL_law_1711 rfl ?_
  refine rw_cVi hX hR pk_f8_thrown (mc := 0) (ms := 0) ⟨rfl, rfl, (show 1 + 1 ≤ R.frames by omega), (show 8 + (1 + 11) + 64 * 1 ≤ R.locals by omega)⟩ (As := []) (rest := []) rfl (C_f8_thrown l γ ad σ2 _ hth) gw_1074 gw_1075 gw_1076 (rs_recv hX hR 8 0 (C := RX7) (T := TX7) (N := 48) rfl (by decide) (Nat.le_of_ble_eq_true rfl) rfl) rfl hl.1 ca0 (Nat.le_of_ble_eq_true rfl) dL_law_1712 ⟨by omega, by omega⟩ (fun H1 locs1 hR => ?_)
  refine rw_iload hX hl 1 rfl dL_law_1715 ?_
  refine lv_icmp_eq (x := hk (fun e => if e = 1 then 1 else 0) r) (y := hk (fun e => if e = 1 then 1 else 0) r) (tgt := 1722) hX.1.1 hX.1.2.1 dL_law_1717 (by decide) (fun c0 => ?_) (fun c0 => absurd rfl c0)
  refine rw_iload hX hl 1 rfl dL_law_1722 ?_
  replace hl := lh_sub hl [2, 3, 4, 5, 6, 1, 0] rfl
  refine lv_if_ne (x := hk (fun e => if e = 1 then 1 else 0) r) (tgt := 1739) hX.1.1 hX.1.2.1 dL_law_1724 (by decide) (fun c0 => ?_) (fun c0 => ?_)
  · refine lv_goto (tgt := 2230) hX.1.1 hX.1.2.1 dL_law_1739 (by decide) ?_
    exact kk ad ls _ _ (lh_sub hl [0, 1, 2, 3, 4] rfl) hR
  have hv1 := hv c0
  refine rw_aload_n hX hl 3 rfl (Or.inr ⟨_, rfl⟩) dL_law_1727 rfl ?_
  refine lv_iconst (v := 0) hX.1.1 hX.1.2.1 dL_law_1728 rfl ?_
  refine rw_outld hX hR dL_law_1729 ?_
  rw [hv1]
  refine rw_iload hX hl 6 rfl dL_law_1730 ?_
  refine lv_i2l hX.1.1 hX.1.2.1 dL_law_1732 rfl ?_
  refine W.lcmp hX.1.1 hX.1.2.1 dL_law_1733 ?_
  rw [lg_self]
  refine lv_if_eq (x := 0) (tgt := 1739) hX.1.1 hX.1.2.1 dL_law_1734 (by decide) (fun c2 => ?_) (fun c2 => absurd rfl c2)
  refine lv_goto (tgt := 2230) hX.1.1 hX.1.2.1 dL_law_1739 (by decide) ?_
  exact kk ad ls _ _ (lh_sub hl [0, 1, 2, 3, 4] rfl) hR
set_option maxHeartbeats 8000000 in
set_option maxRecDepth 100000 in
theorem LC_24 {p : Program} {l : Launch} (hfl : l.stackTraces = false) {e : Env} {R : Room} {s : State} {m : MethodId} {args : Array Value} {below : List Frame} {meth : Method} {c : Code} {H : Heap} {locs : List Loc} {cells slots : Nat} {Q : State → Prop} {γ : GT} {ad : Nat → Nat → Nat} {σ : St} {b L : Nat} {xs : Nat → Int32} {ls : Array Slot} (hX : CX γ p s m args c cL_law 7 RL) (hsc : SC γ s b L xs) (hRf : 100 ≤ R.frames ∧ 8000 ≤ R.locals) {fu I : Nat} (hI : I + 8 ≤ L) (hR : RS γ ad σ s H locs) (hl : lh ls 7 (lv7 γ b (nI I))) (hf : cells + 1 ≤ R.cells ∧ slots + 6 ≤ R.slots) {r : Except Nat Bool} (hw7 : f7_isOn fu (xs (I + 1)) σ = some r) (he : ∀ e, r = .error e → e = 1) {r2 : Bool} {σ2 : St} (hw8 : f8_isOn fu (xs (I + 1)) (hoz σ r) = some (r2, σ2)) (hth : f8_thrown fu σ2 = some (hk (fun e => if e = 1 then 1 else 0) r)) (hv : hk (fun e => if e = 1 then 1 else 0) r = 0 → go σ2 = (if r2 = true then 1 else 0))
    (kk : ∀ (ad : Nat → Nat → Nat) (ls : Array Slot) (H : Heap) (locs : List Loc), lh ls 7 (lv7 γ b (nI I)) → RS γ ad σ2 s H locs → W p l e R s m args below meth c H locs (cells + 1) (slots + 6) Q (F0 m 2230 ls [])) : W p l e R s m args below meth c H locs cells slots Q (F0 m 1742 ls []) := by
  refine rw_aload_n hX hl 1 rfl (Or.inr ⟨_, rfl⟩) dL_law_1742 rfl ?_
  refine rw_aload_n hX hl 0 rfl (Or.inr ⟨_, rfl⟩) dL_law_1743 rfl ?_
  refine rw_iload hX hl 4 rfl dL_law_1744 ?_
  refine lv_iconst (v := 1) hX.1.1 hX.1.2.1 dL_law_1746 rfl ?_
  refine lv_iadd hX.1.1 hX.1.2.1 dL_law_1747 ?_
  refine rw_scr hX hR.2 hsc (k := I + 1) (nI_plus I 1) (by omega) dL_law_1748 ?_
  refine rw_aload_n hX hl 3 rfl (Or.inr ⟨_, rfl⟩) dL_law_1749 rfl ?_
  refine rw_cSW hX hR (y := yL_isOn) (bytes := cL_isOn) (maxL := 4) (hh := [(0, 16, 19, 13)]) (n := 3) ⟨gw_0, gw_838, by decide, gw_837⟩ (rm := rmo 17 1 6) (mc := 1) (ms := 6) ⟨rfl, rfl, (show 17 + 1 ≤ R.frames by omega), (show 8 + (4 + 11) + 64 * 17 ≤ R.locals by omega)⟩ (As := [.ref (gS γ 7 0), .int (xs (I + 1)), .ref (gS γ 3000 0)]) (rest := []) rfl (L_isOn l hfl γ ad (xs (I + 1)) σ r hw7 he) gw_836 rfl hl.1 ca0 (Nat.le_of_ble_eq_true rfl) dL_law_1750 hf (fun ad H1 locs1 hR => ?_)
  refine rw_istore (i := 5) (lv' := [(5, .int (hk (fun e => if e = 1 then 1 else 0) r)), (0, .ref b), (1, .ref (gS γ 7 0)), (2, .ref (gS γ 8 0)), (3, .ref (gS γ 3000 0)), (4, .int (nI I))]) hX hl (Nat.le_of_ble_eq_true rfl) rfl dL_law_1753 (fun ls hl => ?_)
  refine rw_aload_n hX hl 3 rfl (Or.inr ⟨_, rfl⟩) dL_law_1755 rfl ?_
  refine rw_aload_n hX hl 1 rfl (Or.inr ⟨_, rfl⟩) dL_law_1756 rfl ?_
  refine rw_iload hX hl 5 rfl dL_law_1757 ?_
  refine lv_iconst (v := 1) hX.1.1 hX.1.2.1 dL_law_1759 rfl ?_
  refine lv_iadd hX.1.1 hX.1.2.1 dL_law_1760 ?_
  refine rw_scr hX hR.2 hsc (k := I + 1) (nI_plus I 1) (by omega) dL_law_1761 ?_
  refine rw_cVi hX hR pk_f8_isOn (mc := 0) (ms := 0) ⟨rfl, rfl, (show 3 + 1 ≤ R.frames by omega), (show 8 + (2 + 11) + 64 * 3 ≤ R.locals by omega)⟩ (As := [.int (xs (I + 1))]) (rest := []) rfl (C_f8_isOn l γ ad (xs (I + 1)) (hoz σ r) r2 σ2 hw8) gw_1300 gw_1301 gw_1302 (rs_recv hX hR 8 0 (C := RX7) (T := TX7) (N := 48) rfl (by decide) (Nat.le_of_ble_eq_true rfl) rfl) rfl hl.1 ca0 (Nat.le_of_ble_eq_true rfl) dL_law_1762 ⟨by omega, by omega⟩ (fun H1 locs1 hR => ?_)
  refine rw_istore (i := 6) (lv' := [(6, .int (b2i r2)), (5, .int (hk (fun e => if e = 1 then 1 else 0) r)), (0, .ref b), (1, .ref (gS γ 7 0)), (2, .ref (gS γ 8 0)), (3, .ref (gS γ 3000 0)), (4, .int (nI I))]) hX hl (Nat.le_of_ble_eq_true rfl) rfl dL_law_1765 (fun ls hl => ?_)
  refine rw_aload_n hX hl 4 rfl (Or.inr ⟨_, rfl⟩) dL_law_1767 rfl ?_
  refine rw_cVi hX hR pk_f8_thrown (mc := 0) (ms := 0) ⟨rfl, rfl, (show 1 + 1 ≤ R.frames by omega), (show 8 + (1 + 11) + 64 * 1 ≤ R.locals by omega)⟩ (As := []) (rest := []) rfl (C_f8_thrown l γ ad σ2 _ hth) gw_1074 gw_1075 gw_1076 (rs_recv hX hR 8 0 (C := RX7) (T := TX7) (N := 48) rfl (by decide) (Nat.le_of_ble_eq_true rfl) rfl) rfl hl.1 ca0 (Nat.le_of_ble_eq_true rfl) dL_law_1768 ⟨by omega, by omega⟩ (fun H1 locs1 hR => ?_)
  refine rw_iload hX hl 1 rfl dL_law_1771 ?_
  refine lv_icmp_eq (x := hk (fun e => if e = 1 then 1 else 0) r) (y := hk (fun e => if e = 1 then 1 else 0) r) (tgt := 1778) hX.1.1 hX.1.2.1 dL_law_1773 (by decide) (fun c0 => ?_) (fun c0 => absurd rfl c0)
  refine rw_iload hX hl 1 rfl dL_law_1778 ?_
  replace hl := lh_sub hl [2, 3, 4, 5, 6, 1, 0] rfl
  refine lv_if_ne (x := hk (fun e => if e = 1 then 1 else 0) r) (tgt := 1802) hX.1.1 hX.1.2.1 dL_law_1780 (by decide) (fun c0 => ?_) (fun c0 => ?_)
  · refine lv_goto (tgt := 2230) hX.1.1 hX.1.2.1 dL_law_1802 (by decide) ?_
    exact kk ad ls _ _ (lh_sub hl [0, 1, 2, 3, 4] rfl) hR
  have hv1 := hv c0
  refine rw_aload_n hX hl 3 rfl (Or.inr ⟨_, rfl⟩) dL_law_1783 rfl ?_
  refine lv_iconst (v := 0) hX.1.1 hX.1.2.1 dL_law_1784 rfl ?_
  refine rw_outld hX hR dL_law_1785 ?_
  rw [hv1]
  refine rw_iload hX hl 6 rfl dL_law_1786 ?_
  refine rw_ifeqZ (b := r2) (tgt := 1795) hX dL_law_1788 (by decide) (fun c1 => ?_) (fun c1 => ?_)
  · rw [if_neg c1]
    refine lv_lconst (v := 0) hX.1.1 hX.1.2.1 dL_law_1795 rfl ?_
    refine W.lcmp hX.1.1 hX.1.2.1 dL_law_1796 ?_
    rw [lg_self]
    refine lv_if_eq (x := 0) (tgt := 1802) hX.1.1 hX.1.2.1 dL_law_1797 (by decide) (fun c2 => ?_) (fun c2 => absurd rfl c2)
    refine lv_goto (tgt := 2230) hX.1.1 hX.1.2.1 dL_law_1802 (by decide) ?_
    exact kk ad ls _ _ (lh_sub hl [0, 1, 2, 3, 4] rfl) hR
  · rw [if_pos c1]
    refine lv_lconst (v := 1) hX.1.1 hX.1.2.1 dL_law_1791 rfl ?_
    refine lv_goto (tgt := 1796) hX.1.1 hX.1.2.1 dL_law_1792 (by decide) ?_
    refine W.lcmp hX.1.1 hX.1.2.1 dL_law_1796 ?_
    rw [lg_self]
    refine lv_if_eq (x := 0) (tgt := 1802) hX.1.1 hX.1.2.1 dL_law_1797 (by decide) (fun c2 => ?_) (fun c2 => absurd rfl c2)
    refine lv_goto (tgt := 2230) hX.1.1 hX.1.2.1 dL_law_1802 (by decide) ?_
    exact kk ad ls _ _ (lh_sub hl [0, 1, 2, 3, 4] rfl) hR
set_option maxHeartbeats 8000000 in
set_option maxRecDepth 100000 in
theorem LC_25 {p : Program} {l : Launch} (hfl : l.stackTraces = false) {e : Env} {R : Room} {s : State} {m : MethodId} {args : Array Value} {below : List Frame} {meth : Method} {c : Code} {H : Heap} {locs : List Loc} {cells slots : Nat} {Q : State → Prop} {γ : GT} {ad : Nat → Nat → Nat} {σ : St} {b L : Nat} {xs : Nat → Int32} {ls : Array Slot} (hX : CX γ p s m args c cL_law 7 RL) (hsc : SC γ s b L xs) (hRf : 100 ≤ R.frames ∧ 8000 ≤ R.locals) {fu I : Nat} (hI : I + 8 ≤ L) (hR : RS γ ad σ s H locs) (hl : lh ls 7 (lv7 γ b (nI I))) (hf : cells + 1 ≤ R.cells ∧ slots + 6 ≤ R.slots) {r : Except Nat Bool} (hw7 : f7_isPending fu (xs (I + 1)) σ = some r) (he : ∀ e, r = .error e → e = 1) {r2 : Bool} {σ2 : St} (hw8 : f8_isPending fu (xs (I + 1)) (hoz σ r) = some (r2, σ2)) (hth : f8_thrown fu σ2 = some (hk (fun e => if e = 1 then 1 else 0) r)) (hv : hk (fun e => if e = 1 then 1 else 0) r = 0 → go σ2 = (if r2 = true then 1 else 0))
    (kk : ∀ (ad : Nat → Nat → Nat) (ls : Array Slot) (H : Heap) (locs : List Loc), lh ls 7 (lv7 γ b (nI I)) → RS γ ad σ2 s H locs → W p l e R s m args below meth c H locs (cells + 1) (slots + 6) Q (F0 m 2230 ls [])) : W p l e R s m args below meth c H locs cells slots Q (F0 m 1805 ls []) := by
  refine rw_aload_n hX hl 1 rfl (Or.inr ⟨_, rfl⟩) dL_law_1805 rfl ?_
  refine rw_aload_n hX hl 0 rfl (Or.inr ⟨_, rfl⟩) dL_law_1806 rfl ?_
  refine rw_iload hX hl 4 rfl dL_law_1807 ?_
  refine lv_iconst (v := 1) hX.1.1 hX.1.2.1 dL_law_1809 rfl ?_
  refine lv_iadd hX.1.1 hX.1.2.1 dL_law_1810 ?_
  refine rw_scr hX hR.2 hsc (k := I + 1) (nI_plus I 1) (by omega) dL_law_1811 ?_
  refine rw_aload_n hX hl 3 rfl (Or.inr ⟨_, rfl⟩) dL_law_1812 rfl ?_
  refine rw_cSW hX hR (y := yL_isPending) (bytes := cL_isPending) (maxL := 4) (hh := [(0, 16, 19, 13)]) (n := 3) ⟨gw_0, gw_845, by decide, gw_844⟩ (rm := rmo 17 1 6) (mc := 1) (ms := 6) ⟨rfl, rfl, (show 17 + 1 ≤ R.frames by omega), (show 8 + (4 + 11) + 64 * 17 ≤ R.locals by omega)⟩ (As := [.ref (gS γ 7 0), .int (xs (I + 1)), .ref (gS γ 3000 0)]) (rest := []) rfl (L_isPending l hfl γ ad (xs (I + 1)) σ r hw7 he) gw_843 rfl hl.1 ca0 (Nat.le_of_ble_eq_true rfl) dL_law_1813 hf (fun ad H1 locs1 hR => ?_)
  refine rw_istore (i := 5) (lv' := [(5, .int (hk (fun e => if e = 1 then 1 else 0) r)), (0, .ref b), (1, .ref (gS γ 7 0)), (2, .ref (gS γ 8 0)), (3, .ref (gS γ 3000 0)), (4, .int (nI I))]) hX hl (Nat.le_of_ble_eq_true rfl) rfl dL_law_1816 (fun ls hl => ?_)
  refine rw_aload_n hX hl 3 rfl (Or.inr ⟨_, rfl⟩) dL_law_1818 rfl ?_
  refine rw_aload_n hX hl 1 rfl (Or.inr ⟨_, rfl⟩) dL_law_1819 rfl ?_
  refine rw_iload hX hl 5 rfl dL_law_1820 ?_
  refine lv_iconst (v := 1) hX.1.1 hX.1.2.1 dL_law_1822 rfl ?_
  refine lv_iadd hX.1.1 hX.1.2.1 dL_law_1823 ?_
  refine rw_scr hX hR.2 hsc (k := I + 1) (nI_plus I 1) (by omega) dL_law_1824 ?_
  refine rw_cVi hX hR pk_f8_isPending (mc := 0) (ms := 0) ⟨rfl, rfl, (show 3 + 1 ≤ R.frames by omega), (show 8 + (2 + 11) + 64 * 3 ≤ R.locals by omega)⟩ (As := [.int (xs (I + 1))]) (rest := []) rfl (C_f8_isPending l γ ad (xs (I + 1)) (hoz σ r) r2 σ2 hw8) gw_1304 gw_1305 gw_1306 (rs_recv hX hR 8 0 (C := RX7) (T := TX7) (N := 48) rfl (by decide) (Nat.le_of_ble_eq_true rfl) rfl) rfl hl.1 ca0 (Nat.le_of_ble_eq_true rfl) dL_law_1825 ⟨by omega, by omega⟩ (fun H1 locs1 hR => ?_)
  refine rw_istore (i := 6) (lv' := [(6, .int (b2i r2)), (5, .int (hk (fun e => if e = 1 then 1 else 0) r)), (0, .ref b), (1, .ref (gS γ 7 0)), (2, .ref (gS γ 8 0)), (3, .ref (gS γ 3000 0)), (4, .int (nI I))]) hX hl (Nat.le_of_ble_eq_true rfl) rfl dL_law_1828 (fun ls hl => ?_)
  refine rw_aload_n hX hl 4 rfl (Or.inr ⟨_, rfl⟩) dL_law_1830 rfl ?_
  refine rw_cVi hX hR pk_f8_thrown (mc := 0) (ms := 0) ⟨rfl, rfl, (show 1 + 1 ≤ R.frames by omega), (show 8 + (1 + 11) + 64 * 1 ≤ R.locals by omega)⟩ (As := []) (rest := []) rfl (C_f8_thrown l γ ad σ2 _ hth) gw_1074 gw_1075 gw_1076 (rs_recv hX hR 8 0 (C := RX7) (T := TX7) (N := 48) rfl (by decide) (Nat.le_of_ble_eq_true rfl) rfl) rfl hl.1 ca0 (Nat.le_of_ble_eq_true rfl) dL_law_1831 ⟨by omega, by omega⟩ (fun H1 locs1 hR => ?_)
  refine rw_iload hX hl 1 rfl dL_law_1834 ?_
  refine lv_icmp_eq (x := hk (fun e => if e = 1 then 1 else 0) r) (y := hk (fun e => if e = 1 then 1 else 0) r) (tgt := 1841) hX.1.1 hX.1.2.1 dL_law_1836 (by decide) (fun c0 => ?_) (fun c0 => absurd rfl c0)
  refine rw_iload hX hl 1 rfl dL_law_1841 ?_
  replace hl := lh_sub hl [2, 3, 4, 5, 6, 1, 0] rfl
  refine lv_if_ne (x := hk (fun e => if e = 1 then 1 else 0) r) (tgt := 1865) hX.1.1 hX.1.2.1 dL_law_1843 (by decide) (fun c0 => ?_) (fun c0 => ?_)
  · refine lv_goto (tgt := 2230) hX.1.1 hX.1.2.1 dL_law_1865 (by decide) ?_
    exact kk ad ls _ _ (lh_sub hl [0, 1, 2, 3, 4] rfl) hR
  have hv1 := hv c0
  refine rw_aload_n hX hl 3 rfl (Or.inr ⟨_, rfl⟩) dL_law_1846 rfl ?_
  refine lv_iconst (v := 0) hX.1.1 hX.1.2.1 dL_law_1847 rfl ?_
  refine rw_outld hX hR dL_law_1848 ?_
  rw [hv1]
  refine rw_iload hX hl 6 rfl dL_law_1849 ?_
  refine rw_ifeqZ (b := r2) (tgt := 1858) hX dL_law_1851 (by decide) (fun c1 => ?_) (fun c1 => ?_)
  · rw [if_neg c1]
    refine lv_lconst (v := 0) hX.1.1 hX.1.2.1 dL_law_1858 rfl ?_
    refine W.lcmp hX.1.1 hX.1.2.1 dL_law_1859 ?_
    rw [lg_self]
    refine lv_if_eq (x := 0) (tgt := 1865) hX.1.1 hX.1.2.1 dL_law_1860 (by decide) (fun c2 => ?_) (fun c2 => absurd rfl c2)
    refine lv_goto (tgt := 2230) hX.1.1 hX.1.2.1 dL_law_1865 (by decide) ?_
    exact kk ad ls _ _ (lh_sub hl [0, 1, 2, 3, 4] rfl) hR
  · rw [if_pos c1]
    refine lv_lconst (v := 1) hX.1.1 hX.1.2.1 dL_law_1854 rfl ?_
    refine lv_goto (tgt := 1859) hX.1.1 hX.1.2.1 dL_law_1855 (by decide) ?_
    refine W.lcmp hX.1.1 hX.1.2.1 dL_law_1859 ?_
    rw [lg_self]
    refine lv_if_eq (x := 0) (tgt := 1865) hX.1.1 hX.1.2.1 dL_law_1860 (by decide) (fun c2 => ?_) (fun c2 => absurd rfl c2)
    refine lv_goto (tgt := 2230) hX.1.1 hX.1.2.1 dL_law_1865 (by decide) ?_
    exact kk ad ls _ _ (lh_sub hl [0, 1, 2, 3, 4] rfl) hR
set_option maxHeartbeats 8000000 in
set_option maxRecDepth 100000 in
theorem LC_26 {p : Program} {l : Launch} (hfl : l.stackTraces = false) {e : Env} {R : Room} {s : State} {m : MethodId} {args : Array Value} {below : List Frame} {meth : Method} {c : Code} {H : Heap} {locs : List Loc} {cells slots : Nat} {Q : State → Prop} {γ : GT} {ad : Nat → Nat → Nat} {σ : St} {b L : Nat} {xs : Nat → Int32} {ls : Array Slot} (hX : CX γ p s m args c cL_law 7 RL) (hsc : SC γ s b L xs) (hRf : 100 ≤ R.frames ∧ 8000 ≤ R.locals) {fu I : Nat} (hI : I + 8 ≤ L) (hR : RS γ ad σ s H locs) (hl : lh ls 7 (lv7 γ b (nI I))) (hf : cells + 1 ≤ R.cells ∧ slots + 6 ≤ R.slots) {r : Except Nat Int32} (hw7 : f7_strikes fu (xs (I + 1)) σ = some r) (he : ∀ e, r = .error e → e = 1) {r2 : Int32} {σ2 : St} (hw8 : f8_strikes fu (xs (I + 1)) (hoi σ r) = some (r2, σ2)) (hth : f8_thrown fu σ2 = some (hk (fun e => if e = 1 then 1 else 0) r)) (hv : hk (fun e => if e = 1 then 1 else 0) r = 0 → go σ2 = r2.toInt64)
    (kk : ∀ (ad : Nat → Nat → Nat) (ls : Array Slot) (H : Heap) (locs : List Loc), lh ls 7 (lv7 γ b (nI I)) → RS γ ad σ2 s H locs → W p l e R s m args below meth c H locs (cells + 1) (slots + 6) Q (F0 m 2230 ls [])) : W p l e R s m args below meth c H locs cells slots Q (F0 m 1868 ls []) := by
  refine rw_aload_n hX hl 1 rfl (Or.inr ⟨_, rfl⟩) dL_law_1868 rfl ?_
  refine rw_aload_n hX hl 0 rfl (Or.inr ⟨_, rfl⟩) dL_law_1869 rfl ?_
  refine rw_iload hX hl 4 rfl dL_law_1870 ?_
  refine lv_iconst (v := 1) hX.1.1 hX.1.2.1 dL_law_1872 rfl ?_
  refine lv_iadd hX.1.1 hX.1.2.1 dL_law_1873 ?_
  refine rw_scr hX hR.2 hsc (k := I + 1) (nI_plus I 1) (by omega) dL_law_1874 ?_
  refine rw_aload_n hX hl 3 rfl (Or.inr ⟨_, rfl⟩) dL_law_1875 rfl ?_
  refine rw_cSW hX hR (y := yL_strikes) (bytes := cL_strikes) (maxL := 4) (hh := [(0, 9, 12, 13)]) (n := 3) ⟨gw_0, gw_852, by decide, gw_851⟩ (rm := rmo 10 1 6) (mc := 1) (ms := 6) ⟨rfl, rfl, (show 10 + 1 ≤ R.frames by omega), (show 8 + (4 + 11) + 64 * 10 ≤ R.locals by omega)⟩ (As := [.ref (gS γ 7 0), .int (xs (I + 1)), .ref (gS γ 3000 0)]) (rest := []) rfl (L_strikes l hfl γ ad (xs (I + 1)) σ r hw7 he) gw_850 rfl hl.1 ca0 (Nat.le_of_ble_eq_true rfl) dL_law_1876 hf (fun ad H1 locs1 hR => ?_)
  refine rw_istore (i := 5) (lv' := [(5, .int (hk (fun e => if e = 1 then 1 else 0) r)), (0, .ref b), (1, .ref (gS γ 7 0)), (2, .ref (gS γ 8 0)), (3, .ref (gS γ 3000 0)), (4, .int (nI I))]) hX hl (Nat.le_of_ble_eq_true rfl) rfl dL_law_1879 (fun ls hl => ?_)
  refine rw_aload_n hX hl 3 rfl (Or.inr ⟨_, rfl⟩) dL_law_1881 rfl ?_
  refine rw_aload_n hX hl 1 rfl (Or.inr ⟨_, rfl⟩) dL_law_1882 rfl ?_
  refine rw_iload hX hl 5 rfl dL_law_1883 ?_
  refine lv_iconst (v := 1) hX.1.1 hX.1.2.1 dL_law_1885 rfl ?_
  refine lv_iadd hX.1.1 hX.1.2.1 dL_law_1886 ?_
  refine rw_scr hX hR.2 hsc (k := I + 1) (nI_plus I 1) (by omega) dL_law_1887 ?_
  refine rw_cVi hX hR pk_f8_strikes (mc := 0) (ms := 0) ⟨rfl, rfl, (show 2 + 1 ≤ R.frames by omega), (show 8 + (2 + 11) + 64 * 2 ≤ R.locals by omega)⟩ (As := [.int (xs (I + 1))]) (rest := []) rfl (C_f8_strikes l γ ad (xs (I + 1)) (hoi σ r) r2 σ2 hw8) gw_1308 gw_1309 gw_1310 (rs_recv hX hR 8 0 (C := RX7) (T := TX7) (N := 48) rfl (by decide) (Nat.le_of_ble_eq_true rfl) rfl) rfl hl.1 ca0 (Nat.le_of_ble_eq_true rfl) dL_law_1888 ⟨by omega, by omega⟩ (fun H1 locs1 hR => ?_)
  refine rw_istore (i := 6) (lv' := [(6, .int r2), (5, .int (hk (fun e => if e = 1 then 1 else 0) r)), (0, .ref b), (1, .ref (gS γ 7 0)), (2, .ref (gS γ 8 0)), (3, .ref (gS γ 3000 0)), (4, .int (nI I))]) hX hl (Nat.le_of_ble_eq_true rfl) rfl dL_law_1891 (fun ls hl => ?_)
  refine rw_aload_n hX hl 4 rfl (Or.inr ⟨_, rfl⟩) dL_law_1893 rfl ?_
  refine rw_cVi hX hR pk_f8_thrown (mc := 0) (ms := 0) ⟨rfl, rfl, (show 1 + 1 ≤ R.frames by omega), (show 8 + (1 + 11) + 64 * 1 ≤ R.locals by omega)⟩ (As := []) (rest := []) rfl (C_f8_thrown l γ ad σ2 _ hth) gw_1074 gw_1075 gw_1076 (rs_recv hX hR 8 0 (C := RX7) (T := TX7) (N := 48) rfl (by decide) (Nat.le_of_ble_eq_true rfl) rfl) rfl hl.1 ca0 (Nat.le_of_ble_eq_true rfl) dL_law_1894 ⟨by omega, by omega⟩ (fun H1 locs1 hR => ?_)
  refine rw_iload hX hl 1 rfl dL_law_1897 ?_
  refine lv_icmp_eq (x := hk (fun e => if e = 1 then 1 else 0) r) (y := hk (fun e => if e = 1 then 1 else 0) r) (tgt := 1904) hX.1.1 hX.1.2.1 dL_law_1899 (by decide) (fun c0 => ?_) (fun c0 => absurd rfl c0)
  refine rw_iload hX hl 1 rfl dL_law_1904 ?_
  replace hl := lh_sub hl [2, 3, 4, 5, 6, 1, 0] rfl
  refine lv_if_ne (x := hk (fun e => if e = 1 then 1 else 0) r) (tgt := 1921) hX.1.1 hX.1.2.1 dL_law_1906 (by decide) (fun c0 => ?_) (fun c0 => ?_)
  · refine lv_goto (tgt := 2230) hX.1.1 hX.1.2.1 dL_law_1921 (by decide) ?_
    exact kk ad ls _ _ (lh_sub hl [0, 1, 2, 3, 4] rfl) hR
  have hv1 := hv c0
  refine rw_aload_n hX hl 3 rfl (Or.inr ⟨_, rfl⟩) dL_law_1909 rfl ?_
  refine lv_iconst (v := 0) hX.1.1 hX.1.2.1 dL_law_1910 rfl ?_
  refine rw_outld hX hR dL_law_1911 ?_
  rw [hv1]
  refine rw_iload hX hl 6 rfl dL_law_1912 ?_
  refine lv_i2l hX.1.1 hX.1.2.1 dL_law_1914 rfl ?_
  refine W.lcmp hX.1.1 hX.1.2.1 dL_law_1915 ?_
  rw [lg_self]
  refine lv_if_eq (x := 0) (tgt := 1921) hX.1.1 hX.1.2.1 dL_law_1916 (by decide) (fun c2 => ?_) (fun c2 => absurd rfl c2)
  refine lv_goto (tgt := 2230) hX.1.1 hX.1.2.1 dL_law_1921 (by decide) ?_
  exact kk ad ls _ _ (lh_sub hl [0, 1, 2, 3, 4] rfl) hR
set_option maxHeartbeats 8000000 in
set_option maxRecDepth 100000 in
theorem LC_27 {p : Program} {l : Launch} (hfl : l.stackTraces = false) {e : Env} {R : Room} {s : State} {m : MethodId} {args : Array Value} {below : List Frame} {meth : Method} {c : Code} {H : Heap} {locs : List Loc} {cells slots : Nat} {Q : State → Prop} {γ : GT} {ad : Nat → Nat → Nat} {σ : St} {b L : Nat} {xs : Nat → Int32} {ls : Array Slot} (hX : CX γ p s m args c cL_law 7 RL) (hsc : SC γ s b L xs) (hRf : 100 ≤ R.frames ∧ 8000 ≤ R.locals) {fu I : Nat} (hI : I + 8 ≤ L) (hR : RS γ ad σ s H locs) (hl : lh ls 7 (lv7 γ b (nI I))) (hf : cells + 1 ≤ R.cells ∧ slots + 6 ≤ R.slots) {r : Except Nat Int32} (hw7 : f7_handles fu (xs (I + 1)) σ = some r) (he : ∀ e, r = .error e → e = 1) {r2 : Int32} {σ2 : St} (hw8 : f8_handles fu (xs (I + 1)) (hoi σ r) = some (r2, σ2)) (hth : f8_thrown fu σ2 = some (hk (fun e => if e = 1 then 1 else 0) r)) (hv : hk (fun e => if e = 1 then 1 else 0) r = 0 → go σ2 = r2.toInt64)
    (kk : ∀ (ad : Nat → Nat → Nat) (ls : Array Slot) (H : Heap) (locs : List Loc), lh ls 7 (lv7 γ b (nI I)) → RS γ ad σ2 s H locs → W p l e R s m args below meth c H locs (cells + 1) (slots + 6) Q (F0 m 2230 ls [])) : W p l e R s m args below meth c H locs cells slots Q (F0 m 1924 ls []) := by
  refine rw_aload_n hX hl 1 rfl (Or.inr ⟨_, rfl⟩) dL_law_1924 rfl ?_
  refine rw_aload_n hX hl 0 rfl (Or.inr ⟨_, rfl⟩) dL_law_1925 rfl ?_
  refine rw_iload hX hl 4 rfl dL_law_1926 ?_
  refine lv_iconst (v := 1) hX.1.1 hX.1.2.1 dL_law_1928 rfl ?_
  refine lv_iadd hX.1.1 hX.1.2.1 dL_law_1929 ?_
  refine rw_scr hX hR.2 hsc (k := I + 1) (nI_plus I 1) (by omega) dL_law_1930 ?_
  refine rw_aload_n hX hl 3 rfl (Or.inr ⟨_, rfl⟩) dL_law_1931 rfl ?_
  refine rw_cSW hX hR (y := yL_handles) (bytes := cL_handles) (maxL := 4) (hh := [(0, 9, 12, 13)]) (n := 3) ⟨gw_0, gw_856, by decide, gw_855⟩ (rm := rmo 17 1 6) (mc := 1) (ms := 6) ⟨rfl, rfl, (show 17 + 1 ≤ R.frames by omega), (show 8 + (4 + 11) + 64 * 17 ≤ R.locals by omega)⟩ (As := [.ref (gS γ 7 0), .int (xs (I + 1)), .ref (gS γ 3000 0)]) (rest := []) rfl (L_handles l hfl γ ad (xs (I + 1)) σ r hw7 he) gw_854 rfl hl.1 ca0 (Nat.le_of_ble_eq_true rfl) dL_law_1932 hf (fun ad H1 locs1 hR => ?_)
  refine rw_istore (i := 5) (lv' := [(5, .int (hk (fun e => if e = 1 then 1 else 0) r)), (0, .ref b), (1, .ref (gS γ 7 0)), (2, .ref (gS γ 8 0)), (3, .ref (gS γ 3000 0)), (4, .int (nI I))]) hX hl (Nat.le_of_ble_eq_true rfl) rfl dL_law_1935 (fun ls hl => ?_)
  refine rw_aload_n hX hl 3 rfl (Or.inr ⟨_, rfl⟩) dL_law_1937 rfl ?_
  refine rw_aload_n hX hl 1 rfl (Or.inr ⟨_, rfl⟩) dL_law_1938 rfl ?_
  refine rw_iload hX hl 5 rfl dL_law_1939 ?_
  refine lv_iconst (v := 1) hX.1.1 hX.1.2.1 dL_law_1941 rfl ?_
  refine lv_iadd hX.1.1 hX.1.2.1 dL_law_1942 ?_
  refine rw_scr hX hR.2 hsc (k := I + 1) (nI_plus I 1) (by omega) dL_law_1943 ?_
  refine rw_cVi hX hR pk_f8_handles (mc := 0) (ms := 0) ⟨rfl, rfl, (show 3 + 1 ≤ R.frames by omega), (show 8 + (4 + 11) + 64 * 3 ≤ R.locals by omega)⟩ (As := [.int (xs (I + 1))]) (rest := []) rfl (C_f8_handles l γ ad (xs (I + 1)) (hoi σ r) r2 σ2 hw8) gw_1312 gw_1313 gw_1314 (rs_recv hX hR 8 0 (C := RX7) (T := TX7) (N := 48) rfl (by decide) (Nat.le_of_ble_eq_true rfl) rfl) rfl hl.1 ca0 (Nat.le_of_ble_eq_true rfl) dL_law_1944 ⟨by omega, by omega⟩ (fun H1 locs1 hR => ?_)
  refine rw_istore (i := 6) (lv' := [(6, .int r2), (5, .int (hk (fun e => if e = 1 then 1 else 0) r)), (0, .ref b), (1, .ref (gS γ 7 0)), (2, .ref (gS γ 8 0)), (3, .ref (gS γ 3000 0)), (4, .int (nI I))]) hX hl (Nat.le_of_ble_eq_true rfl) rfl dL_law_1947 (fun ls hl => ?_)
  refine rw_aload_n hX hl 4 rfl (Or.inr ⟨_, rfl⟩) dL_law_1949 rfl ?_
  refine rw_cVi hX hR pk_f8_thrown (mc := 0) (ms := 0) ⟨rfl, rfl, (show 1 + 1 ≤ R.frames by omega), (show 8 + (1 + 11) + 64 * 1 ≤ R.locals by omega)⟩ (As := []) (rest := []) rfl (C_f8_thrown l γ ad σ2 _ hth) gw_1074 gw_1075 gw_1076 (rs_recv hX hR 8 0 (C := RX7) (T := TX7) (N := 48) rfl (by decide) (Nat.le_of_ble_eq_true rfl) rfl) rfl hl.1 ca0 (Nat.le_of_ble_eq_true rfl) dL_law_1950 ⟨by omega, by omega⟩ (fun H1 locs1 hR => ?_)
  refine rw_iload hX hl 1 rfl dL_law_1953 ?_
  refine lv_icmp_eq (x := hk (fun e => if e = 1 then 1 else 0) r) (y := hk (fun e => if e = 1 then 1 else 0) r) (tgt := 1960) hX.1.1 hX.1.2.1 dL_law_1955 (by decide) (fun c0 => ?_) (fun c0 => absurd rfl c0)
  refine rw_iload hX hl 1 rfl dL_law_1960 ?_
  replace hl := lh_sub hl [2, 3, 4, 5, 6, 1, 0] rfl
  refine lv_if_ne (x := hk (fun e => if e = 1 then 1 else 0) r) (tgt := 1977) hX.1.1 hX.1.2.1 dL_law_1962 (by decide) (fun c0 => ?_) (fun c0 => ?_)
  · refine lv_goto (tgt := 2230) hX.1.1 hX.1.2.1 dL_law_1977 (by decide) ?_
    exact kk ad ls _ _ (lh_sub hl [0, 1, 2, 3, 4] rfl) hR
  have hv1 := hv c0
  refine rw_aload_n hX hl 3 rfl (Or.inr ⟨_, rfl⟩) dL_law_1965 rfl ?_
  refine lv_iconst (v := 0) hX.1.1 hX.1.2.1 dL_law_1966 rfl ?_
  refine rw_outld hX hR dL_law_1967 ?_
  rw [hv1]
  refine rw_iload hX hl 6 rfl dL_law_1968 ?_
  refine lv_i2l hX.1.1 hX.1.2.1 dL_law_1970 rfl ?_
  refine W.lcmp hX.1.1 hX.1.2.1 dL_law_1971 ?_
  rw [lg_self]
  refine lv_if_eq (x := 0) (tgt := 1977) hX.1.1 hX.1.2.1 dL_law_1972 (by decide) (fun c2 => ?_) (fun c2 => absurd rfl c2)
  refine lv_goto (tgt := 2230) hX.1.1 hX.1.2.1 dL_law_1977 (by decide) ?_
  exact kk ad ls _ _ (lh_sub hl [0, 1, 2, 3, 4] rfl) hR
set_option maxHeartbeats 8000000 in
set_option maxRecDepth 100000 in
theorem LC_28 {p : Program} {l : Launch} (hfl : l.stackTraces = false) {e : Env} {R : Room} {s : State} {m : MethodId} {args : Array Value} {below : List Frame} {meth : Method} {c : Code} {H : Heap} {locs : List Loc} {cells slots : Nat} {Q : State → Prop} {γ : GT} {ad : Nat → Nat → Nat} {σ : St} {b L : Nat} {xs : Nat → Int32} {ls : Array Slot} (hX : CX γ p s m args c cL_law 7 RL) (hsc : SC γ s b L xs) (hRf : 100 ≤ R.frames ∧ 8000 ≤ R.locals) {fu I : Nat} (hI : I + 8 ≤ L) (hR : RS γ ad σ s H locs) (hl : lh ls 7 (lv7 γ b (nI I))) (hf : cells + 1 ≤ R.cells ∧ slots + 6 ≤ R.slots) {r : Except Nat Int32} (hw7 : f7_callState fu (xs (I + 1)) σ = some r) (he : ∀ e, r = .error e → e = 1) {r2 : Int32} {σ2 : St} (hw8 : f8_callState fu (xs (I + 1)) (hoi σ r) = some (r2, σ2)) (hth : f8_thrown fu σ2 = some (hk (fun e => if e = 1 then 1 else 0) r)) (hv : hk (fun e => if e = 1 then 1 else 0) r = 0 → go σ2 = r2.toInt64)
    (kk : ∀ (ad : Nat → Nat → Nat) (ls : Array Slot) (H : Heap) (locs : List Loc), lh ls 7 (lv7 γ b (nI I)) → RS γ ad σ2 s H locs → W p l e R s m args below meth c H locs (cells + 1) (slots + 6) Q (F0 m 2230 ls [])) : W p l e R s m args below meth c H locs cells slots Q (F0 m 1980 ls []) := by
  refine rw_aload_n hX hl 1 rfl (Or.inr ⟨_, rfl⟩) dL_law_1980 rfl ?_
  refine rw_aload_n hX hl 0 rfl (Or.inr ⟨_, rfl⟩) dL_law_1981 rfl ?_
  refine rw_iload hX hl 4 rfl dL_law_1982 ?_
  refine lv_iconst (v := 1) hX.1.1 hX.1.2.1 dL_law_1984 rfl ?_
  refine lv_iadd hX.1.1 hX.1.2.1 dL_law_1985 ?_
  refine rw_scr hX hR.2 hsc (k := I + 1) (nI_plus I 1) (by omega) dL_law_1986 ?_
  refine rw_aload_n hX hl 3 rfl (Or.inr ⟨_, rfl⟩) dL_law_1987 rfl ?_
  refine rw_cSW hX hR (y := yL_callState) (bytes := cL_callState) (maxL := 4) (hh := [(0, 9, 12, 13)]) (n := 3) ⟨gw_0, gw_863, by decide, gw_862⟩ (rm := rmo 16 1 6) (mc := 1) (ms := 6) ⟨rfl, rfl, (show 16 + 1 ≤ R.frames by omega), (show 8 + (4 + 11) + 64 * 16 ≤ R.locals by omega)⟩ (As := [.ref (gS γ 7 0), .int (xs (I + 1)), .ref (gS γ 3000 0)]) (rest := []) rfl (L_callState l hfl γ ad (xs (I + 1)) σ r hw7 he) gw_861 rfl hl.1 ca0 (Nat.le_of_ble_eq_true rfl) dL_law_1988 hf (fun ad H1 locs1 hR => ?_)
  refine rw_istore (i := 5) (lv' := [(5, .int (hk (fun e => if e = 1 then 1 else 0) r)), (0, .ref b), (1, .ref (gS γ 7 0)), (2, .ref (gS γ 8 0)), (3, .ref (gS γ 3000 0)), (4, .int (nI I))]) hX hl (Nat.le_of_ble_eq_true rfl) rfl dL_law_1991 (fun ls hl => ?_)
  refine rw_aload_n hX hl 3 rfl (Or.inr ⟨_, rfl⟩) dL_law_1993 rfl ?_
  refine rw_aload_n hX hl 1 rfl (Or.inr ⟨_, rfl⟩) dL_law_1994 rfl ?_
  refine rw_iload hX hl 5 rfl dL_law_1995 ?_
  refine lv_iconst (v := 1) hX.1.1 hX.1.2.1 dL_law_1997 rfl ?_
  refine lv_iadd hX.1.1 hX.1.2.1 dL_law_1998 ?_
  refine rw_scr hX hR.2 hsc (k := I + 1) (nI_plus I 1) (by omega) dL_law_1999 ?_
  refine rw_cVi hX hR pk_f8_callState (mc := 0) (ms := 0) ⟨rfl, rfl, (show 2 + 1 ≤ R.frames by omega), (show 8 + (2 + 11) + 64 * 2 ≤ R.locals by omega)⟩ (As := [.int (xs (I + 1))]) (rest := []) rfl (C_f8_callState l γ ad (xs (I + 1)) (hoi σ r) r2 σ2 hw8) gw_1316 gw_1317 gw_1318 (rs_recv hX hR 8 0 (C := RX7) (T := TX7) (N := 48) rfl (by decide) (Nat.le_of_ble_eq_true rfl) rfl) rfl hl.1 ca0 (Nat.le_of_ble_eq_true rfl) dL_law_2000 ⟨by omega, by omega⟩ (fun H1 locs1 hR => ?_)
  refine rw_istore (i := 6) (lv' := [(6, .int r2), (5, .int (hk (fun e => if e = 1 then 1 else 0) r)), (0, .ref b), (1, .ref (gS γ 7 0)), (2, .ref (gS γ 8 0)), (3, .ref (gS γ 3000 0)), (4, .int (nI I))]) hX hl (Nat.le_of_ble_eq_true rfl) rfl dL_law_2003 (fun ls hl => ?_)
  refine rw_aload_n hX hl 4 rfl (Or.inr ⟨_, rfl⟩) dL_law_2005 rfl ?_
  refine rw_cVi hX hR pk_f8_thrown (mc := 0) (ms := 0) ⟨rfl, rfl, (show 1 + 1 ≤ R.frames by omega), (show 8 + (1 + 11) + 64 * 1 ≤ R.locals by omega)⟩ (As := []) (rest := []) rfl (C_f8_thrown l γ ad σ2 _ hth) gw_1074 gw_1075 gw_1076 (rs_recv hX hR 8 0 (C := RX7) (T := TX7) (N := 48) rfl (by decide) (Nat.le_of_ble_eq_true rfl) rfl) rfl hl.1 ca0 (Nat.le_of_ble_eq_true rfl) dL_law_2006 ⟨by omega, by omega⟩ (fun H1 locs1 hR => ?_)
  refine rw_iload hX hl 1 rfl dL_law_2009 ?_
  refine lv_icmp_eq (x := hk (fun e => if e = 1 then 1 else 0) r) (y := hk (fun e => if e = 1 then 1 else 0) r) (tgt := 2016) hX.1.1 hX.1.2.1 dL_law_2011 (by decide) (fun c0 => ?_) (fun c0 => absurd rfl c0)
  refine rw_iload hX hl 1 rfl dL_law_2016 ?_
  replace hl := lh_sub hl [2, 3, 4, 5, 6, 1, 0] rfl
  refine lv_if_ne (x := hk (fun e => if e = 1 then 1 else 0) r) (tgt := 2033) hX.1.1 hX.1.2.1 dL_law_2018 (by decide) (fun c0 => ?_) (fun c0 => ?_)
  · refine lv_goto (tgt := 2230) hX.1.1 hX.1.2.1 dL_law_2033 (by decide) ?_
    exact kk ad ls _ _ (lh_sub hl [0, 1, 2, 3, 4] rfl) hR
  have hv1 := hv c0
  refine rw_aload_n hX hl 3 rfl (Or.inr ⟨_, rfl⟩) dL_law_2021 rfl ?_
  refine lv_iconst (v := 0) hX.1.1 hX.1.2.1 dL_law_2022 rfl ?_
  refine rw_outld hX hR dL_law_2023 ?_
  rw [hv1]
  refine rw_iload hX hl 6 rfl dL_law_2024 ?_
  refine lv_i2l hX.1.1 hX.1.2.1 dL_law_2026 rfl ?_
  refine W.lcmp hX.1.1 hX.1.2.1 dL_law_2027 ?_
  rw [lg_self]
  refine lv_if_eq (x := 0) (tgt := 2033) hX.1.1 hX.1.2.1 dL_law_2028 (by decide) (fun c2 => ?_) (fun c2 => absurd rfl c2)
  refine lv_goto (tgt := 2230) hX.1.1 hX.1.2.1 dL_law_2033 (by decide) ?_
  exact kk ad ls _ _ (lh_sub hl [0, 1, 2, 3, 4] rfl) hR
set_option maxHeartbeats 8000000 in
set_option maxRecDepth 100000 in
theorem LC_29 {p : Program} {l : Launch} (hfl : l.stackTraces = false) {e : Env} {R : Room} {s : State} {m : MethodId} {args : Array Value} {below : List Frame} {meth : Method} {c : Code} {H : Heap} {locs : List Loc} {cells slots : Nat} {Q : State → Prop} {γ : GT} {ad : Nat → Nat → Nat} {σ : St} {b L : Nat} {xs : Nat → Int32} {ls : Array Slot} (hX : CX γ p s m args c cL_law 7 RL) (hsc : SC γ s b L xs) (hRf : 100 ≤ R.frames ∧ 8000 ≤ R.locals) {fu I : Nat} (hI : I + 8 ≤ L) (hR : RS γ ad σ s H locs) (hl : lh ls 7 (lv7 γ b (nI I))) (hfz : cells + 0 ≤ R.cells ∧ slots + 0 ≤ R.slots) {r : Int32} (hw7 : f7_faults fu σ = some r) (hw8 : f8_faults fu σ = some r)
    (kk : ∀ (ad : Nat → Nat → Nat) (ls : Array Slot) (H : Heap) (locs : List Loc), lh ls 7 (lv7 γ b (nI I)) → RS γ ad σ s H locs → W p l e R s m args below meth c H locs cells slots Q (F0 m 2230 ls [])) : W p l e R s m args below meth c H locs cells slots Q (F0 m 2036 ls []) := by
  refine rw_aload_n hX hl 1 rfl (Or.inr ⟨_, rfl⟩) dL_law_2036 rfl ?_
  refine rw_cVi hX hR pk_f7_faults (mc := 0) (ms := 0) ⟨rfl, rfl, (show 1 + 1 ≤ R.frames by omega), (show 8 + (1 + 11) + 64 * 1 ≤ R.locals by omega)⟩ (As := []) (rest := []) rfl (C_f7_faults l γ ad σ r hw7) gw_183 gw_184 gw_185 (rs_recv hX hR 7 0 (C := RX6) (T := TX6) (N := 11) rfl (by decide) (Nat.le_of_ble_eq_true rfl) rfl) rfl hl.1 ca0 (Nat.le_of_ble_eq_true rfl) dL_law_2037 hfz (fun H1 locs1 hR => ?_)
  refine rw_aload_n hX hl 2 rfl (Or.inr ⟨_, rfl⟩) dL_law_2040 rfl ?_
  refine rw_cVi hX hR pk_f8_faults (mc := 0) (ms := 0) ⟨rfl, rfl, (show 1 + 1 ≤ R.frames by omega), (show 8 + (1 + 11) + 64 * 1 ≤ R.locals by omega)⟩ (As := []) (rest := [.int r]) rfl (C_f8_faults l γ ad σ r hw8) gw_1320 gw_1321 gw_1322 (rs_recv hX hR 8 0 (C := RX7) (T := TX7) (N := 48) rfl (by decide) (Nat.le_of_ble_eq_true rfl) rfl) rfl hl.1 (ca1 rfl ca0) (Nat.le_of_ble_eq_true rfl) dL_law_2041 hfz (fun H1 locs1 hR => ?_)
  refine lv_icmp_eq (x := r) (y := r) (tgt := 2230) hX.1.1 hX.1.2.1 dL_law_2044 (by decide) (fun c0 => ?_) (fun c0 => absurd rfl c0)
  exact kk ad ls _ _ hl hR
set_option maxHeartbeats 8000000 in
set_option maxRecDepth 100000 in
theorem LC_30 {p : Program} {l : Launch} (hfl : l.stackTraces = false) {e : Env} {R : Room} {s : State} {m : MethodId} {args : Array Value} {below : List Frame} {meth : Method} {c : Code} {H : Heap} {locs : List Loc} {cells slots : Nat} {Q : State → Prop} {γ : GT} {ad : Nat → Nat → Nat} {σ : St} {b L : Nat} {xs : Nat → Int32} {ls : Array Slot} (hX : CX γ p s m args c cL_law 7 RL) (hsc : SC γ s b L xs) (hRf : 100 ≤ R.frames ∧ 8000 ≤ R.locals) {fu I : Nat} (hI : I + 8 ≤ L) (hR : RS γ ad σ s H locs) (hl : lh ls 7 (lv7 γ b (nI I))) (hf : cells + 1 ≤ R.cells ∧ slots + 6 ≤ R.slots) {r : Except Nat Int32} (hw7 : f7_given fu (xs (I + 1)) σ = some r) (he : ∀ e, r = .error e → e = 2) {r2 : Int32} {σ2 : St} (hw8 : f8_given fu (xs (I + 1)) (hoi σ r) = some (r2, σ2)) (hth : f8_thrown fu σ2 = some (hk (fun e => if e = 2 then 1 else 0) r)) (hv : hk (fun e => if e = 2 then 1 else 0) r = 0 → go σ2 = r2.toInt64)
    (kk : ∀ (ad : Nat → Nat → Nat) (ls : Array Slot) (H : Heap) (locs : List Loc), lh ls 7 (lv7 γ b (nI I)) → RS γ ad σ2 s H locs → W p l e R s m args below meth c H locs (cells + 1) (slots + 6) Q (F0 m 2230 ls [])) : W p l e R s m args below meth c H locs cells slots Q (F0 m 2049 ls []) := by
  refine rw_aload_n hX hl 1 rfl (Or.inr ⟨_, rfl⟩) dL_law_2049 rfl ?_
  refine rw_aload_n hX hl 0 rfl (Or.inr ⟨_, rfl⟩) dL_law_2050 rfl ?_
  refine rw_iload hX hl 4 rfl dL_law_2051 ?_
  refine lv_iconst (v := 1) hX.1.1 hX.1.2.1 dL_law_2053 rfl ?_
  refine lv_iadd hX.1.1 hX.1.2.1 dL_law_2054 ?_
  refine rw_scr hX hR.2 hsc (k := I + 1) (nI_plus I 1) (by omega) dL_law_2055 ?_
  refine rw_aload_n hX hl 3 rfl (Or.inr ⟨_, rfl⟩) dL_law_2056 rfl ?_
  refine rw_cSW hX hR (y := yL_given) (bytes := cL_given) (maxL := 4) (hh := [(0, 9, 12, 15)]) (n := 3) ⟨gw_0, gw_871, by decide, gw_870⟩ (rm := rmo 17 1 6) (mc := 1) (ms := 6) ⟨rfl, rfl, (show 17 + 1 ≤ R.frames by omega), (show 8 + (4 + 11) + 64 * 17 ≤ R.locals by omega)⟩ (As := [.ref (gS γ 7 0), .int (xs (I + 1)), .ref (gS γ 3000 0)]) (rest := []) rfl (L_given l hfl γ ad (xs (I + 1)) σ r hw7 he) gw_869 rfl hl.1 ca0 (Nat.le_of_ble_eq_true rfl) dL_law_2057 hf (fun ad H1 locs1 hR => ?_)
  refine rw_istore (i := 5) (lv' := [(5, .int (hk (fun e => if e = 2 then 1 else 0) r)), (0, .ref b), (1, .ref (gS γ 7 0)), (2, .ref (gS γ 8 0)), (3, .ref (gS γ 3000 0)), (4, .int (nI I))]) hX hl (Nat.le_of_ble_eq_true rfl) rfl dL_law_2060 (fun ls hl => ?_)
  refine rw_aload_n hX hl 3 rfl (Or.inr ⟨_, rfl⟩) dL_law_2062 rfl ?_
  refine rw_aload_n hX hl 1 rfl (Or.inr ⟨_, rfl⟩) dL_law_2063 rfl ?_
  refine rw_iload hX hl 5 rfl dL_law_2064 ?_
  refine lv_iconst (v := 1) hX.1.1 hX.1.2.1 dL_law_2066 rfl ?_
  refine lv_iadd hX.1.1 hX.1.2.1 dL_law_2067 ?_
  refine rw_scr hX hR.2 hsc (k := I + 1) (nI_plus I 1) (by omega) dL_law_2068 ?_
  refine rw_cVi hX hR pk_f8_given (mc := 0) (ms := 0) ⟨rfl, rfl, (show 2 + 1 ≤ R.frames by omega), (show 8 + (5 + 11) + 64 * 2 ≤ R.locals by omega)⟩ (As := [.int (xs (I + 1))]) (rest := []) rfl (C_f8_given l γ ad (xs (I + 1)) (hoi σ r) r2 σ2 hw8) gw_1324 gw_1325 gw_1326 (rs_recv hX hR 8 0 (C := RX7) (T := TX7) (N := 48) rfl (by decide) (Nat.le_of_ble_eq_true rfl) rfl) rfl hl.1 ca0 (Nat.le_of_ble_eq_true rfl) dL_law_2069 ⟨by omega, by omega⟩ (fun H1 locs1 hR => ?_)
  refine rw_istore (i := 6) (lv' := [(6, .int r2), (5, .int (hk (fun e => if e = 2 then 1 else 0) r)), (0, .ref b), (1, .ref (gS γ 7 0)), (2, .ref (gS γ 8 0)), (3, .ref (gS γ 3000 0)), (4, .int (nI I))]) hX hl (Nat.le_of_ble_eq_true rfl) rfl dL_law_2072 (fun ls hl => ?_)
  refine rw_aload_n hX hl 4 rfl (Or.inr ⟨_, rfl⟩) dL_law_2074 rfl ?_
  refine rw_cVi hX hR pk_f8_thrown (mc := 0) (ms := 0) ⟨rfl, rfl, (show 1 + 1 ≤ R.frames by omega), (show 8 + (1 + 11) + 64 * 1 ≤ R.locals by omega)⟩ (As := []) (rest := []) rfl (C_f8_thrown l γ ad σ2 _ hth) gw_1074 gw_1075 gw_1076 (rs_recv hX hR 8 0 (C := RX7) (T := TX7) (N := 48) rfl (by decide) (Nat.le_of_ble_eq_true rfl) rfl) rfl hl.1 ca0 (Nat.le_of_ble_eq_true rfl) dL_law_2075 ⟨by omega, by omega⟩ (fun H1 locs1 hR => ?_)
  refine rw_iload hX hl 1 rfl dL_law_2078 ?_
  refine lv_icmp_eq (x := hk (fun e => if e = 2 then 1 else 0) r) (y := hk (fun e => if e = 2 then 1 else 0) r) (tgt := 2085) hX.1.1 hX.1.2.1 dL_law_2080 (by decide) (fun c0 => ?_) (fun c0 => absurd rfl c0)
  refine rw_iload hX hl 1 rfl dL_law_2085 ?_
  replace hl := lh_sub hl [2, 3, 4, 5, 6, 1, 0] rfl
  refine lv_if_ne (x := hk (fun e => if e = 2 then 1 else 0) r) (tgt := 2102) hX.1.1 hX.1.2.1 dL_law_2087 (by decide) (fun c0 => ?_) (fun c0 => ?_)
  · refine lv_goto (tgt := 2230) hX.1.1 hX.1.2.1 dL_law_2102 (by decide) ?_
    exact kk ad ls _ _ (lh_sub hl [0, 1, 2, 3, 4] rfl) hR
  have hv1 := hv c0
  refine rw_aload_n hX hl 3 rfl (Or.inr ⟨_, rfl⟩) dL_law_2090 rfl ?_
  refine lv_iconst (v := 0) hX.1.1 hX.1.2.1 dL_law_2091 rfl ?_
  refine rw_outld hX hR dL_law_2092 ?_
  rw [hv1]
  refine rw_iload hX hl 6 rfl dL_law_2093 ?_
  refine lv_i2l hX.1.1 hX.1.2.1 dL_law_2095 rfl ?_
  refine W.lcmp hX.1.1 hX.1.2.1 dL_law_2096 ?_
  rw [lg_self]
  refine lv_if_eq (x := 0) (tgt := 2102) hX.1.1 hX.1.2.1 dL_law_2097 (by decide) (fun c2 => ?_) (fun c2 => absurd rfl c2)
  refine lv_goto (tgt := 2230) hX.1.1 hX.1.2.1 dL_law_2102 (by decide) ?_
  exact kk ad ls _ _ (lh_sub hl [0, 1, 2, 3, 4] rfl) hR
set_option maxHeartbeats 8000000 in
set_option maxRecDepth 100000 in
theorem LC_31 {p : Program} {l : Launch} (hfl : l.stackTraces = false) {e : Env} {R : Room} {s : State} {m : MethodId} {args : Array Value} {below : List Frame} {meth : Method} {c : Code} {H : Heap} {locs : List Loc} {cells slots : Nat} {Q : State → Prop} {γ : GT} {ad : Nat → Nat → Nat} {σ : St} {b L : Nat} {xs : Nat → Int32} {ls : Array Slot} (hX : CX γ p s m args c cL_law 7 RL) (hsc : SC γ s b L xs) (hRf : 100 ≤ R.frames ∧ 8000 ≤ R.locals) {fu I : Nat} (hI : I + 8 ≤ L) (hR : RS γ ad σ s H locs) (hl : lh ls 7 (lv7 γ b (nI I))) (hfz : cells + 0 ≤ R.cells ∧ slots + 0 ≤ R.slots) {r : Int32} (hw7 : f7_events fu σ = some r) (hw8 : f8_events fu σ = some r)
    (kk : ∀ (ad : Nat → Nat → Nat) (ls : Array Slot) (H : Heap) (locs : List Loc), lh ls 7 (lv7 γ b (nI I)) → RS γ ad σ s H locs → W p l e R s m args below meth c H locs cells slots Q (F0 m 2230 ls [])) : W p l e R s m args below meth c H locs cells slots Q (F0 m 2105 ls []) := by
  refine rw_aload_n hX hl 1 rfl (Or.inr ⟨_, rfl⟩) dL_law_2105 rfl ?_
  refine rw_cVi hX hR pk_f7_events (mc := 0) (ms := 0) ⟨rfl, rfl, (show 1 + 1 ≤ R.frames by omega), (show 8 + (1 + 11) + 64 * 1 ≤ R.locals by omega)⟩ (As := []) (rest := []) rfl (C_f7_events l γ ad σ r hw7) gw_187 gw_188 gw_189 (rs_recv hX hR 7 0 (C := RX6) (T := TX6) (N := 11) rfl (by decide) (Nat.le_of_ble_eq_true rfl) rfl) rfl hl.1 ca0 (Nat.le_of_ble_eq_true rfl) dL_law_2106 hfz (fun H1 locs1 hR => ?_)
  refine rw_aload_n hX hl 2 rfl (Or.inr ⟨_, rfl⟩) dL_law_2109 rfl ?_
  refine rw_cVi hX hR pk_f8_events (mc := 0) (ms := 0) ⟨rfl, rfl, (show 1 + 1 ≤ R.frames by omega), (show 8 + (1 + 11) + 64 * 1 ≤ R.locals by omega)⟩ (As := []) (rest := [.int r]) rfl (C_f8_events l γ ad σ r hw8) gw_1328 gw_1329 gw_1330 (rs_recv hX hR 8 0 (C := RX7) (T := TX7) (N := 48) rfl (by decide) (Nat.le_of_ble_eq_true rfl) rfl) rfl hl.1 (ca1 rfl ca0) (Nat.le_of_ble_eq_true rfl) dL_law_2110 hfz (fun H1 locs1 hR => ?_)
  refine lv_icmp_eq (x := r) (y := r) (tgt := 2230) hX.1.1 hX.1.2.1 dL_law_2113 (by decide) (fun c0 => ?_) (fun c0 => absurd rfl c0)
  exact kk ad ls _ _ hl hR
set_option maxHeartbeats 8000000 in
set_option maxRecDepth 100000 in
theorem LC_32 {p : Program} {l : Launch} (hfl : l.stackTraces = false) {e : Env} {R : Room} {s : State} {m : MethodId} {args : Array Value} {below : List Frame} {meth : Method} {c : Code} {H : Heap} {locs : List Loc} {cells slots : Nat} {Q : State → Prop} {γ : GT} {ad : Nat → Nat → Nat} {σ : St} {b L : Nat} {xs : Nat → Int32} {ls : Array Slot} (hX : CX γ p s m args c cL_law 7 RL) (hsc : SC γ s b L xs) (hRf : 100 ≤ R.frames ∧ 8000 ≤ R.locals) {fu I : Nat} (hI : I + 8 ≤ L) (hR : RS γ ad σ s H locs) (hl : lh ls 7 (lv7 γ b (nI I))) (hf : cells + 1 ≤ R.cells ∧ slots + 6 ≤ R.slots) {r : Except Nat Int32} (hw7 : f7_eventKind fu (xs (I + 1)) σ = some r) (he : ∀ e, r = .error e → e = 1) {r2 : Int32} {σ2 : St} (hw8 : f8_eventKind fu (xs (I + 1)) (hoi σ r) = some (r2, σ2)) (hth : f8_thrown fu σ2 = some (hk (fun e => if e = 1 then 1 else 0) r)) (hv : hk (fun e => if e = 1 then 1 else 0) r = 0 → go σ2 = r2.toInt64)
    (kk : ∀ (ad : Nat → Nat → Nat) (ls : Array Slot) (H : Heap) (locs : List Loc), lh ls 7 (lv7 γ b (nI I)) → RS γ ad σ2 s H locs → W p l e R s m args below meth c H locs (cells + 1) (slots + 6) Q (F0 m 2230 ls [])) : W p l e R s m args below meth c H locs cells slots Q (F0 m 2118 ls []) := by
  refine rw_aload_n hX hl 1 rfl (Or.inr ⟨_, rfl⟩) dL_law_2118 rfl ?_
  refine rw_aload_n hX hl 0 rfl (Or.inr ⟨_, rfl⟩) dL_law_2119 rfl ?_
  refine rw_iload hX hl 4 rfl dL_law_2120 ?_
  refine lv_iconst (v := 1) hX.1.1 hX.1.2.1 dL_law_2122 rfl ?_
  refine lv_iadd hX.1.1 hX.1.2.1 dL_law_2123 ?_
  refine rw_scr hX hR.2 hsc (k := I + 1) (nI_plus I 1) (by omega) dL_law_2124 ?_
  refine rw_aload_n hX hl 3 rfl (Or.inr ⟨_, rfl⟩) dL_law_2125 rfl ?_
  refine rw_cSW hX hR (y := yL_eventKind) (bytes := cL_eventKind) (maxL := 4) (hh := [(0, 9, 12, 13)]) (n := 3) ⟨gw_0, gw_897, by decide, gw_896⟩ (rm := rmo 9 1 6) (mc := 1) (ms := 6) ⟨rfl, rfl, (show 9 + 1 ≤ R.frames by omega), (show 8 + (4 + 11) + 64 * 9 ≤ R.locals by omega)⟩ (As := [.ref (gS γ 7 0), .int (xs (I + 1)), .ref (gS γ 3000 0)]) (rest := []) rfl (L_eventKind l hfl γ ad (xs (I + 1)) σ r hw7 he) gw_895 rfl hl.1 ca0 (Nat.le_of_ble_eq_true rfl) dL_law_2126 hf (fun ad H1 locs1 hR => ?_)
  refine rw_istore (i := 5) (lv' := [(5, .int (hk (fun e => if e = 1 then 1 else 0) r)), (0, .ref b), (1, .ref (gS γ 7 0)), (2, .ref (gS γ 8 0)), (3, .ref (gS γ 3000 0)), (4, .int (nI I))]) hX hl (Nat.le_of_ble_eq_true rfl) rfl dL_law_2129 (fun ls hl => ?_)
  refine rw_aload_n hX hl 3 rfl (Or.inr ⟨_, rfl⟩) dL_law_2131 rfl ?_
  refine rw_aload_n hX hl 1 rfl (Or.inr ⟨_, rfl⟩) dL_law_2132 rfl ?_
  refine rw_iload hX hl 5 rfl dL_law_2133 ?_
  refine lv_iconst (v := 1) hX.1.1 hX.1.2.1 dL_law_2135 rfl ?_
  refine lv_iadd hX.1.1 hX.1.2.1 dL_law_2136 ?_
  refine rw_scr hX hR.2 hsc (k := I + 1) (nI_plus I 1) (by omega) dL_law_2137 ?_
  refine rw_cVi hX hR pk_f8_eventKind (mc := 0) (ms := 0) ⟨rfl, rfl, (show 3 + 1 ≤ R.frames by omega), (show 8 + (2 + 11) + 64 * 3 ≤ R.locals by omega)⟩ (As := [.int (xs (I + 1))]) (rest := []) rfl (C_f8_eventKind l γ ad (xs (I + 1)) (hoi σ r) r2 σ2 hw8) gw_1332 gw_1333 gw_1334 (rs_recv hX hR 8 0 (C := RX7) (T := TX7) (N := 48) rfl (by decide) (Nat.le_of_ble_eq_true rfl) rfl) rfl hl.1 ca0 (Nat.le_of_ble_eq_true rfl) dL_law_2138 ⟨by omega, by omega⟩ (fun H1 locs1 hR => ?_)
  refine rw_istore (i := 6) (lv' := [(6, .int r2), (5, .int (hk (fun e => if e = 1 then 1 else 0) r)), (0, .ref b), (1, .ref (gS γ 7 0)), (2, .ref (gS γ 8 0)), (3, .ref (gS γ 3000 0)), (4, .int (nI I))]) hX hl (Nat.le_of_ble_eq_true rfl) rfl dL_law_2141 (fun ls hl => ?_)
  refine rw_aload_n hX hl 4 rfl (Or.inr ⟨_, rfl⟩) dL_law_2143 rfl ?_
  refine rw_cVi hX hR pk_f8_thrown (mc := 0) (ms := 0) ⟨rfl, rfl, (show 1 + 1 ≤ R.frames by omega), (show 8 + (1 + 11) + 64 * 1 ≤ R.locals by omega)⟩ (As := []) (rest := []) rfl (C_f8_thrown l γ ad σ2 _ hth) gw_1074 gw_1075 gw_1076 (rs_recv hX hR 8 0 (C := RX7) (T := TX7) (N := 48) rfl (by decide) (Nat.le_of_ble_eq_true rfl) rfl) rfl hl.1 ca0 (Nat.le_of_ble_eq_true rfl) dL_law_2144 ⟨by omega, by omega⟩ (fun H1 locs1 hR => ?_)
  refine rw_iload hX hl 1 rfl dL_law_2147 ?_
  refine lv_icmp_eq (x := hk (fun e => if e = 1 then 1 else 0) r) (y := hk (fun e => if e = 1 then 1 else 0) r) (tgt := 2154) hX.1.1 hX.1.2.1 dL_law_2149 (by decide) (fun c0 => ?_) (fun c0 => absurd rfl c0)
  refine rw_iload hX hl 1 rfl dL_law_2154 ?_
  replace hl := lh_sub hl [2, 3, 4, 5, 6, 1, 0] rfl
  refine lv_if_ne (x := hk (fun e => if e = 1 then 1 else 0) r) (tgt := 2171) hX.1.1 hX.1.2.1 dL_law_2156 (by decide) (fun c0 => ?_) (fun c0 => ?_)
  · refine lv_goto (tgt := 2230) hX.1.1 hX.1.2.1 dL_law_2171 (by decide) ?_
    exact kk ad ls _ _ (lh_sub hl [0, 1, 2, 3, 4] rfl) hR
  have hv1 := hv c0
  refine rw_aload_n hX hl 3 rfl (Or.inr ⟨_, rfl⟩) dL_law_2159 rfl ?_
  refine lv_iconst (v := 0) hX.1.1 hX.1.2.1 dL_law_2160 rfl ?_
  refine rw_outld hX hR dL_law_2161 ?_
  rw [hv1]
  refine rw_iload hX hl 6 rfl dL_law_2162 ?_
  refine lv_i2l hX.1.1 hX.1.2.1 dL_law_2164 rfl ?_
  refine W.lcmp hX.1.1 hX.1.2.1 dL_law_2165 ?_
  rw [lg_self]
  refine lv_if_eq (x := 0) (tgt := 2171) hX.1.1 hX.1.2.1 dL_law_2166 (by decide) (fun c2 => ?_) (fun c2 => absurd rfl c2)
  refine lv_goto (tgt := 2230) hX.1.1 hX.1.2.1 dL_law_2171 (by decide) ?_
  exact kk ad ls _ _ (lh_sub hl [0, 1, 2, 3, 4] rfl) hR
set_option maxHeartbeats 8000000 in
set_option maxRecDepth 100000 in
theorem LC_33 {p : Program} {l : Launch} (hfl : l.stackTraces = false) {e : Env} {R : Room} {s : State} {m : MethodId} {args : Array Value} {below : List Frame} {meth : Method} {c : Code} {H : Heap} {locs : List Loc} {cells slots : Nat} {Q : State → Prop} {γ : GT} {ad : Nat → Nat → Nat} {σ : St} {b L : Nat} {xs : Nat → Int32} {ls : Array Slot} (hX : CX γ p s m args c cL_law 7 RL) (hsc : SC γ s b L xs) (hRf : 100 ≤ R.frames ∧ 8000 ≤ R.locals) {fu I : Nat} (hI : I + 8 ≤ L) (hR : RS γ ad σ s H locs) (hl : lh ls 7 (lv7 γ b (nI I))) (hf : cells + 1 ≤ R.cells ∧ slots + 6 ≤ R.slots) {r : Except Nat Int32} (hw7 : f7_eventOf fu (xs (I + 1)) σ = some r) (he : ∀ e, r = .error e → e = 1) {r2 : Int32} {σ2 : St} (hw8 : f8_eventOf fu (xs (I + 1)) (hoi σ r) = some (r2, σ2)) (hth : f8_thrown fu σ2 = some (hk (fun e => if e = 1 then 1 else 0) r)) (hv : hk (fun e => if e = 1 then 1 else 0) r = 0 → go σ2 = r2.toInt64)
    (kk : ∀ (ad : Nat → Nat → Nat) (ls : Array Slot) (H : Heap) (locs : List Loc), lh ls 7 (lv7 γ b (nI I)) → RS γ ad σ2 s H locs → W p l e R s m args below meth c H locs (cells + 1) (slots + 6) Q (F0 m 2230 ls [])) : W p l e R s m args below meth c H locs cells slots Q (F0 m 2174 ls []) := by
  refine rw_aload_n hX hl 1 rfl (Or.inr ⟨_, rfl⟩) dL_law_2174 rfl ?_
  refine rw_aload_n hX hl 0 rfl (Or.inr ⟨_, rfl⟩) dL_law_2175 rfl ?_
  refine rw_iload hX hl 4 rfl dL_law_2176 ?_
  refine lv_iconst (v := 1) hX.1.1 hX.1.2.1 dL_law_2178 rfl ?_
  refine lv_iadd hX.1.1 hX.1.2.1 dL_law_2179 ?_
  refine rw_scr hX hR.2 hsc (k := I + 1) (nI_plus I 1) (by omega) dL_law_2180 ?_
  refine rw_aload_n hX hl 3 rfl (Or.inr ⟨_, rfl⟩) dL_law_2181 rfl ?_
  refine rw_cSW hX hR (y := yL_eventOf) (bytes := cL_eventOf) (maxL := 4) (hh := [(0, 9, 12, 13)]) (n := 3) ⟨gw_0, gw_913, by decide, gw_912⟩ (rm := rmo 9 1 6) (mc := 1) (ms := 6) ⟨rfl, rfl, (show 9 + 1 ≤ R.frames by omega), (show 8 + (4 + 11) + 64 * 9 ≤ R.locals by omega)⟩ (As := [.ref (gS γ 7 0), .int (xs (I + 1)), .ref (gS γ 3000 0)]) (rest := []) rfl (L_eventOf l hfl γ ad (xs (I + 1)) σ r hw7 he) gw_911 rfl hl.1 ca0 (Nat.le_of_ble_eq_true rfl) dL_law_2182 hf (fun ad H1 locs1 hR => ?_)
  refine rw_istore (i := 5) (lv' := [(5, .int (hk (fun e => if e = 1 then 1 else 0) r)), (0, .ref b), (1, .ref (gS γ 7 0)), (2, .ref (gS γ 8 0)), (3, .ref (gS γ 3000 0)), (4, .int (nI I))]) hX hl (Nat.le_of_ble_eq_true rfl) rfl dL_law_2185 (fun ls hl => ?_)
  refine rw_aload_n hX hl 3 rfl (Or.inr ⟨_, rfl⟩) dL_law_2187 rfl ?_
  refine rw_aload_n hX hl 1 rfl (Or.inr ⟨_, rfl⟩) dL_law_2188 rfl ?_
  refine rw_iload hX hl 5 rfl dL_law_2189 ?_
  refine lv_iconst (v := 1) hX.1.1 hX.1.2.1 dL_law_2191 rfl ?_
  refine lv_iadd hX.1.1 hX.1.2.1 dL_law_2192 ?_
  refine rw_scr hX hR.2 hsc (k := I + 1) (nI_plus I 1) (by omega) dL_law_2193 ?_
  refine rw_cVi hX hR pk_f8_eventOf (mc := 0) (ms := 0) ⟨rfl, rfl, (show 3 + 1 ≤ R.frames by omega), (show 8 + (2 + 11) + 64 * 3 ≤ R.locals by omega)⟩ (As := [.int (xs (I + 1))]) (rest := []) rfl (C_f8_eventOf l γ ad (xs (I + 1)) (hoi σ r) r2 σ2 hw8) gw_1340 gw_1341 gw_1342 (rs_recv hX hR 8 0 (C := RX7) (T := TX7) (N := 48) rfl (by decide) (Nat.le_of_ble_eq_true rfl) rfl) rfl hl.1 ca0 (Nat.le_of_ble_eq_true rfl) dL_law_2194 ⟨by omega, by omega⟩ (fun H1 locs1 hR => ?_)
  refine rw_istore (i := 6) (lv' := [(6, .int r2), (5, .int (hk (fun e => if e = 1 then 1 else 0) r)), (0, .ref b), (1, .ref (gS γ 7 0)), (2, .ref (gS γ 8 0)), (3, .ref (gS γ 3000 0)), (4, .int (nI I))]) hX hl (Nat.le_of_ble_eq_true rfl) rfl dL_law_2197 (fun ls hl => ?_)
  refine rw_aload_n hX hl 4 rfl (Or.inr ⟨_, rfl⟩) dL_law_2199 rfl ?_
  refine rw_cVi hX hR pk_f8_thrown (mc := 0) (ms := 0) ⟨rfl, rfl, (show 1 + 1 ≤ R.frames by omega), (show 8 + (1 + 11) + 64 * 1 ≤ R.locals by omega)⟩ (As := []) (rest := []) rfl (C_f8_thrown l γ ad σ2 _ hth) gw_1074 gw_1075 gw_1076 (rs_recv hX hR 8 0 (C := RX7) (T := TX7) (N := 48) rfl (by decide) (Nat.le_of_ble_eq_true rfl) rfl) rfl hl.1 ca0 (Nat.le_of_ble_eq_true rfl) dL_law_2200 ⟨by omega, by omega⟩ (fun H1 locs1 hR => ?_)
  refine rw_iload hX hl 1 rfl dL_law_2203 ?_
  refine lv_icmp_eq (x := hk (fun e => if e = 1 then 1 else 0) r) (y := hk (fun e => if e = 1 then 1 else 0) r) (tgt := 2210) hX.1.1 hX.1.2.1 dL_law_2205 (by decide) (fun c0 => ?_) (fun c0 => absurd rfl c0)
  refine rw_iload hX hl 1 rfl dL_law_2210 ?_
  replace hl := lh_sub hl [2, 3, 4, 5, 6, 1, 0] rfl
  refine lv_if_ne (x := hk (fun e => if e = 1 then 1 else 0) r) (tgt := 2227) hX.1.1 hX.1.2.1 dL_law_2212 (by decide) (fun c0 => ?_) (fun c0 => ?_)
  · refine lv_goto (tgt := 2230) hX.1.1 hX.1.2.1 dL_law_2227 (by decide) ?_
    exact kk ad ls _ _ (lh_sub hl [0, 1, 2, 3, 4] rfl) hR
  have hv1 := hv c0
  refine rw_aload_n hX hl 3 rfl (Or.inr ⟨_, rfl⟩) dL_law_2215 rfl ?_
  refine lv_iconst (v := 0) hX.1.1 hX.1.2.1 dL_law_2216 rfl ?_
  refine rw_outld hX hR dL_law_2217 ?_
  rw [hv1]
  refine rw_iload hX hl 6 rfl dL_law_2218 ?_
  refine lv_i2l hX.1.1 hX.1.2.1 dL_law_2220 rfl ?_
  refine W.lcmp hX.1.1 hX.1.2.1 dL_law_2221 ?_
  rw [lg_self]
  refine lv_if_eq (x := 0) (tgt := 2227) hX.1.1 hX.1.2.1 dL_law_2222 (by decide) (fun c2 => ?_) (fun c2 => absurd rfl c2)
  refine lv_goto (tgt := 2230) hX.1.1 hX.1.2.1 dL_law_2227 (by decide) ?_
  exact kk ad ls _ _ (lh_sub hl [0, 1, 2, 3, 4] rfl) hR
