-- THE LAW: its cases
theorem nL_ld66 : Cond.constantLong RL 66 (4294967295) ∈ wsL_law := by decide +kernel
set_option maxHeartbeats 2000000 in
set_option maxRecDepth 100000 in
theorem lc_pairs {p : Program} {l : Launch} {e : Env} {s : State} {m : MethodId} {below : List Frame} {meth : Method} {c : Code} {Q : State → Prop} {b L : Nat} {xs : Nat → Int32} {G : GT} {adX adM : Nat → Nat} {i : Nat} {H : Heap} {locs : List Loc} {ls : Array Slot} {σ τ : St} (X : CallFix p m c cL_law 4 s #[Value.ref b] wsL_law RL) (hX : va_X b L xs s s.heap) (hbl : b < s.heap.size) (hdis : ∀ i, i < LX.length → ∀ j, j < LM.length → adX i ≠ adM j) (hi : i + 5 ≤ L) (hL : L ≤ 2560) (hl : lv_has ls 4 [(3, iV (i : Nat)), (2, .ref (adM 0)), (1, .ref (adX 0)), (0, .ref b)]) (hw : Wy vwCl G LX adX (fun q => s.heap.size ≤ q) s H locs σ) (hw2 : Wy vwCl G LM adM (fun q => s.heap.size ≤ q) s H locs τ) (hR : Rel σ τ) (kk : ∀ (H : Heap) (locs : List Loc) (σ τ : St), Wy vwCl G LX adX (fun q => s.heap.size ≤ q) s H locs σ → Wy vwCl G LM adM (fun q => s.heap.size ≤ q) s H locs τ → Rel σ τ → W p l e room_1 s m #[Value.ref b] below meth c H locs 94 44590 Q (F0 m 1288 ls [])) : W p l e room_1 s m #[Value.ref b] below meth c H locs 94 44590 Q (F0 m 200 ls []) := by
  refine x_aload_n X dL_law_200 rfl (lv_at hl 2 rfl) ?_
  refine x_aload_n X dL_law_201 rfl (lv_at hl 3 rfl) ?_
  refine x_iload_n X dL_law_202 rfl (lv_at hl 0 rfl) ?_
  refine x_iconst X dL_law_203 ?_
  refine x_iadd X dL_law_204 ?_
  refine x_sld X hX hbl hw.2.2.2 (i + 1) (i32_id (by omega) (by omega)) (by omega) dL_law_205 ?_
  refine x_cvi2 X hw hw2 hdis [iV ((xs (i + 1)).toInt)] [] (c_P_pairs l G adX hw.2.1.1 σ ((xs (i + 1)).toInt) (op_pairs hR (i32_to _))) (cwV 1 X.2.2.2.2 gL_law_X7_pairs rfl rfl rfl hd_P_pairs ⟨Nat.le_of_ble_eq_true rfl, Nat.le_of_ble_eq_true rfl⟩) lx0 cX7 rfl hl.1 rfl (Nat.le_of_ble_eq_true rfl) dL_law_206 ⟨Nat.le_of_ble_eq_true rfl, Nat.le_of_ble_eq_true rfl⟩ (fun r σ1 H locs hV hw hw2 => ?_)
  refine x_aload_n X dL_law_209 rfl (lv_at hl 1 rfl) ?_
  refine x_aload_n X dL_law_210 rfl (lv_at hl 3 rfl) ?_
  refine x_iload_n X dL_law_211 rfl (lv_at hl 0 rfl) ?_
  refine x_iconst X dL_law_212 ?_
  refine x_iadd X dL_law_213 ?_
  refine x_sld X hX hbl hw.2.2.2 (i + 1) (i32_id (by omega) (by omega)) (by omega) dL_law_214 ?_
  refine x_cvi2 X hw2 hw (fun i hi j hj => (hdis j hj i hi).symm) [iV ((xs (i + 1)).toInt)] [iV r] (c_M_pairs l G adM hw2.2.1.1 τ ((xs (i + 1)).toInt) hV) (cwV 1 X.2.2.2.2 gL_law_X8_pairs rfl rfl rfl hd_M_pairs ⟨Nat.le_of_ble_eq_true rfl, Nat.le_of_ble_eq_true rfl⟩) lm0 cX8 rfl hl.1 rfl (Nat.le_of_ble_eq_true rfl) dL_law_215 ⟨Nat.le_of_ble_eq_true rfl, Nat.le_of_ble_eq_true rfl⟩ (fun r2 τ1 H locs hq hw2 hw => ?_)
  exact x_icmp_eq X hq.1 rfl 1288 dL_law_218 (by decide) (fun _ => kk H locs σ1 τ1 hw hw2 hq.2) (fun z => absurd rfl z)
set_option maxHeartbeats 2000000 in
set_option maxRecDepth 100000 in
theorem lc_lay {p : Program} {l : Launch} {e : Env} {s : State} {m : MethodId} {below : List Frame} {meth : Method} {c : Code} {Q : State → Prop} {b L : Nat} {xs : Nat → Int32} {G : GT} {adX adM : Nat → Nat} {i : Nat} {H : Heap} {locs : List Loc} {ls : Array Slot} {σ τ : St} (X : CallFix p m c cL_law 4 s #[Value.ref b] wsL_law RL) (hX : va_X b L xs s s.heap) (hbl : b < s.heap.size) (hdis : ∀ i, i < LX.length → ∀ j, j < LM.length → adX i ≠ adM j) (hi : i + 5 ≤ L) (hL : L ≤ 2560) (hl : lv_has ls 4 [(3, iV (i : Nat)), (2, .ref (adM 0)), (1, .ref (adX 0)), (0, .ref b)]) (hw : Wy vwCl G LX adX (fun q => s.heap.size ≤ q) s H locs σ) (hw2 : Wy vwCl G LM adM (fun q => s.heap.size ≤ q) s H locs τ) (hR : Rel σ τ) (kk : ∀ (H : Heap) (locs : List Loc) (σ τ : St), Wy vwCl G LX adX (fun q => s.heap.size ≤ q) s H locs σ → Wy vwCl G LM adM (fun q => s.heap.size ≤ q) s H locs τ → Rel σ τ → W p l e room_1 s m #[Value.ref b] below meth c H locs 94 44590 Q (F0 m 1288 ls [])) : W p l e room_1 s m #[Value.ref b] below meth c H locs 94 44590 Q (F0 m 223 ls []) := by
  refine x_aload_n X dL_law_223 rfl (lv_at hl 2 rfl) ?_
  refine x_aload_n X dL_law_224 rfl (lv_at hl 3 rfl) ?_
  refine x_iload_n X dL_law_225 rfl (lv_at hl 0 rfl) ?_
  refine x_iconst X dL_law_226 ?_
  refine x_iadd X dL_law_227 ?_
  refine x_sld X hX hbl hw.2.2.2 (i + 1) (i32_id (by omega) (by omega)) (by omega) dL_law_228 ?_
  refine x_aload_n X dL_law_229 rfl (lv_at hl 3 rfl) ?_
  refine x_iload_n X dL_law_230 rfl (lv_at hl 0 rfl) ?_
  refine x_iconst X dL_law_231 ?_
  refine x_iadd X dL_law_232 ?_
  refine x_sld X hX hbl hw.2.2.2 (i + 2) (i32_id (by omega) (by omega)) (by omega) dL_law_233 ?_
  refine x_aload_n X dL_law_234 rfl (lv_at hl 3 rfl) ?_
  refine x_iload_n X dL_law_235 rfl (lv_at hl 0 rfl) ?_
  refine x_iconst X dL_law_236 ?_
  refine x_iadd X dL_law_237 ?_
  refine x_sld X hX hbl hw.2.2.2 (i + 3) (i32_id (by omega) (by omega)) (by omega) dL_law_238 ?_
  refine x_cvi2 X hw hw2 hdis [iV ((xs (i + 1)).toInt), iV ((xs (i + 2)).toInt), iV ((xs (i + 3)).toInt)] [] (c_P_lay l G adX hw.2.1.1 σ ((xs (i + 1)).toInt) ((xs (i + 2)).toInt) ((xs (i + 3)).toInt) (op_lay hR (i32_to _) (i32_to _) (i32_to _))) (cwV 3 X.2.2.2.2 gL_law_X7_lay rfl rfl rfl hd_P_lay ⟨Nat.le_of_ble_eq_true rfl, Nat.le_of_ble_eq_true rfl⟩) lx0 cX7 rfl hl.1 rfl (Nat.le_of_ble_eq_true rfl) dL_law_239 ⟨Nat.le_of_ble_eq_true rfl, Nat.le_of_ble_eq_true rfl⟩ (fun r σ1 H locs hV hw hw2 => ?_)
  refine x_aload_n X dL_law_242 rfl (lv_at hl 1 rfl) ?_
  refine x_aload_n X dL_law_243 rfl (lv_at hl 3 rfl) ?_
  refine x_iload_n X dL_law_244 rfl (lv_at hl 0 rfl) ?_
  refine x_iconst X dL_law_245 ?_
  refine x_iadd X dL_law_246 ?_
  refine x_sld X hX hbl hw.2.2.2 (i + 1) (i32_id (by omega) (by omega)) (by omega) dL_law_247 ?_
  refine x_aload_n X dL_law_248 rfl (lv_at hl 3 rfl) ?_
  refine x_iload_n X dL_law_249 rfl (lv_at hl 0 rfl) ?_
  refine x_iconst X dL_law_250 ?_
  refine x_iadd X dL_law_251 ?_
  refine x_sld X hX hbl hw.2.2.2 (i + 2) (i32_id (by omega) (by omega)) (by omega) dL_law_252 ?_
  refine x_aload_n X dL_law_253 rfl (lv_at hl 3 rfl) ?_
  refine x_iload_n X dL_law_254 rfl (lv_at hl 0 rfl) ?_
  refine x_iconst X dL_law_255 ?_
  refine x_iadd X dL_law_256 ?_
  refine x_sld X hX hbl hw.2.2.2 (i + 3) (i32_id (by omega) (by omega)) (by omega) dL_law_257 ?_
  refine x_cvi2 X hw2 hw (fun i hi j hj => (hdis j hj i hi).symm) [iV ((xs (i + 1)).toInt), iV ((xs (i + 2)).toInt), iV ((xs (i + 3)).toInt)] [iV r] (c_M_lay l G adM hw2.2.1.1 τ ((xs (i + 1)).toInt) ((xs (i + 2)).toInt) ((xs (i + 3)).toInt) hV) (cwV 3 X.2.2.2.2 gL_law_X8_lay rfl rfl rfl hd_M_lay ⟨Nat.le_of_ble_eq_true rfl, Nat.le_of_ble_eq_true rfl⟩) lm0 cX8 rfl hl.1 rfl (Nat.le_of_ble_eq_true rfl) dL_law_258 ⟨Nat.le_of_ble_eq_true rfl, Nat.le_of_ble_eq_true rfl⟩ (fun r2 τ1 H locs hq hw2 hw => ?_)
  exact x_icmp_eq X hq.1 rfl 1288 dL_law_261 (by decide) (fun _ => kk H locs σ1 τ1 hw hw2 hq.2) (fun z => absurd rfl z)
set_option maxHeartbeats 2000000 in
set_option maxRecDepth 100000 in
theorem lc_look {p : Program} {l : Launch} {e : Env} {s : State} {m : MethodId} {below : List Frame} {meth : Method} {c : Code} {Q : State → Prop} {b L : Nat} {xs : Nat → Int32} {G : GT} {adX adM : Nat → Nat} {i : Nat} {H : Heap} {locs : List Loc} {ls : Array Slot} {σ τ : St} (X : CallFix p m c cL_law 4 s #[Value.ref b] wsL_law RL) (hX : va_X b L xs s s.heap) (hbl : b < s.heap.size) (hdis : ∀ i, i < LX.length → ∀ j, j < LM.length → adX i ≠ adM j) (hi : i + 5 ≤ L) (hL : L ≤ 2560) (hl : lv_has ls 4 [(3, iV (i : Nat)), (2, .ref (adM 0)), (1, .ref (adX 0)), (0, .ref b)]) (hw : Wy vwCl G LX adX (fun q => s.heap.size ≤ q) s H locs σ) (hw2 : Wy vwCl G LM adM (fun q => s.heap.size ≤ q) s H locs τ) (hR : Rel σ τ) (kk : ∀ (H : Heap) (locs : List Loc) (σ τ : St), Wy vwCl G LX adX (fun q => s.heap.size ≤ q) s H locs σ → Wy vwCl G LM adM (fun q => s.heap.size ≤ q) s H locs τ → Rel σ τ → W p l e room_1 s m #[Value.ref b] below meth c H locs 94 44590 Q (F0 m 1288 ls [])) : W p l e room_1 s m #[Value.ref b] below meth c H locs 94 44590 Q (F0 m 266 ls []) := by
  refine x_aload_n X dL_law_266 rfl (lv_at hl 2 rfl) ?_
  refine x_aload_n X dL_law_267 rfl (lv_at hl 3 rfl) ?_
  refine x_iload_n X dL_law_268 rfl (lv_at hl 0 rfl) ?_
  refine x_iconst X dL_law_269 ?_
  refine x_iadd X dL_law_270 ?_
  refine x_sld X hX hbl hw.2.2.2 (i + 1) (i32_id (by omega) (by omega)) (by omega) dL_law_271 ?_
  refine x_aload_n X dL_law_272 rfl (lv_at hl 3 rfl) ?_
  refine x_iload_n X dL_law_273 rfl (lv_at hl 0 rfl) ?_
  refine x_iconst X dL_law_274 ?_
  refine x_iadd X dL_law_275 ?_
  refine x_sld X hX hbl hw.2.2.2 (i + 2) (i32_id (by omega) (by omega)) (by omega) dL_law_276 ?_
  refine x_cvi2 X hw hw2 hdis [iV ((xs (i + 1)).toInt), iV ((xs (i + 2)).toInt)] [] (c_P_look l G adX hw.2.1.1 σ ((xs (i + 1)).toInt) ((xs (i + 2)).toInt) (op_look hR (i32_to _) (i32_to _))) (cwV 2 X.2.2.2.2 gL_law_X7_look rfl rfl rfl hd_P_look ⟨Nat.le_of_ble_eq_true rfl, Nat.le_of_ble_eq_true rfl⟩) lx0 cX7 rfl hl.1 rfl (Nat.le_of_ble_eq_true rfl) dL_law_277 ⟨Nat.le_of_ble_eq_true rfl, Nat.le_of_ble_eq_true rfl⟩ (fun r σ1 H locs hV hw hw2 => ?_)
  refine x_aload_n X dL_law_280 rfl (lv_at hl 1 rfl) ?_
  refine x_aload_n X dL_law_281 rfl (lv_at hl 3 rfl) ?_
  refine x_iload_n X dL_law_282 rfl (lv_at hl 0 rfl) ?_
  refine x_iconst X dL_law_283 ?_
  refine x_iadd X dL_law_284 ?_
  refine x_sld X hX hbl hw.2.2.2 (i + 1) (i32_id (by omega) (by omega)) (by omega) dL_law_285 ?_
  refine x_aload_n X dL_law_286 rfl (lv_at hl 3 rfl) ?_
  refine x_iload_n X dL_law_287 rfl (lv_at hl 0 rfl) ?_
  refine x_iconst X dL_law_288 ?_
  refine x_iadd X dL_law_289 ?_
  refine x_sld X hX hbl hw.2.2.2 (i + 2) (i32_id (by omega) (by omega)) (by omega) dL_law_290 ?_
  refine x_cvi2 X hw2 hw (fun i hi j hj => (hdis j hj i hi).symm) [iV ((xs (i + 1)).toInt), iV ((xs (i + 2)).toInt)] [iV r] (c_M_look l G adM hw2.2.1.1 τ ((xs (i + 1)).toInt) ((xs (i + 2)).toInt) hV) (cwV 2 X.2.2.2.2 gL_law_X8_look rfl rfl rfl hd_M_look ⟨Nat.le_of_ble_eq_true rfl, Nat.le_of_ble_eq_true rfl⟩) lm0 cX8 rfl hl.1 rfl (Nat.le_of_ble_eq_true rfl) dL_law_291 ⟨Nat.le_of_ble_eq_true rfl, Nat.le_of_ble_eq_true rfl⟩ (fun r2 τ1 H locs hq hw2 hw => ?_)
  exact x_icmp_eq X hq.1 rfl 1288 dL_law_294 (by decide) (fun _ => kk H locs σ1 τ1 hw hw2 hq.2) (fun z => absurd rfl z)
set_option maxHeartbeats 2000000 in
set_option maxRecDepth 100000 in
theorem lc_feed {p : Program} {l : Launch} {e : Env} {s : State} {m : MethodId} {below : List Frame} {meth : Method} {c : Code} {Q : State → Prop} {b L : Nat} {xs : Nat → Int32} {G : GT} {adX adM : Nat → Nat} {i : Nat} {H : Heap} {locs : List Loc} {ls : Array Slot} {σ τ : St} (X : CallFix p m c cL_law 4 s #[Value.ref b] wsL_law RL) (hX : va_X b L xs s s.heap) (hbl : b < s.heap.size) (hdis : ∀ i, i < LX.length → ∀ j, j < LM.length → adX i ≠ adM j) (hi : i + 5 ≤ L) (hL : L ≤ 2560) (hl : lv_has ls 4 [(3, iV (i : Nat)), (2, .ref (adM 0)), (1, .ref (adX 0)), (0, .ref b)]) (hw : Wy vwCl G LX adX (fun q => s.heap.size ≤ q) s H locs σ) (hw2 : Wy vwCl G LM adM (fun q => s.heap.size ≤ q) s H locs τ) (hR : Rel σ τ) (kk : ∀ (H : Heap) (locs : List Loc) (σ τ : St), Wy vwCl G LX adX (fun q => s.heap.size ≤ q) s H locs σ → Wy vwCl G LM adM (fun q => s.heap.size ≤ q) s H locs τ → Rel σ τ → W p l e room_1 s m #[Value.ref b] below meth c H locs 94 44590 Q (F0 m 1288 ls [])) : W p l e room_1 s m #[Value.ref b] below meth c H locs 94 44590 Q (F0 m 299 ls []) := by
  refine x_aload_n X dL_law_299 rfl (lv_at hl 2 rfl) ?_
  refine x_aload_n X dL_law_300 rfl (lv_at hl 3 rfl) ?_
  refine x_iload_n X dL_law_301 rfl (lv_at hl 0 rfl) ?_
  refine x_iconst X dL_law_302 ?_
  refine x_iadd X dL_law_303 ?_
  refine x_sld X hX hbl hw.2.2.2 (i + 1) (i32_id (by omega) (by omega)) (by omega) dL_law_304 ?_
  refine x_cvi2 X hw hw2 hdis [iV ((xs (i + 1)).toInt)] [] (c_P_feed l G adX hw.2.1.1 σ ((xs (i + 1)).toInt) (op_feed hR (i32_to _))) (cwV 1 X.2.2.2.2 gL_law_X7_feed rfl rfl rfl hd_P_feed ⟨Nat.le_of_ble_eq_true rfl, Nat.le_of_ble_eq_true rfl⟩) lx0 cX7 rfl hl.1 rfl (Nat.le_of_ble_eq_true rfl) dL_law_305 ⟨Nat.le_of_ble_eq_true rfl, Nat.le_of_ble_eq_true rfl⟩ (fun r σ1 H locs hV hw hw2 => ?_)
  refine x_aload_n X dL_law_308 rfl (lv_at hl 1 rfl) ?_
  refine x_aload_n X dL_law_309 rfl (lv_at hl 3 rfl) ?_
  refine x_iload_n X dL_law_310 rfl (lv_at hl 0 rfl) ?_
  refine x_iconst X dL_law_311 ?_
  refine x_iadd X dL_law_312 ?_
  refine x_sld X hX hbl hw.2.2.2 (i + 1) (i32_id (by omega) (by omega)) (by omega) dL_law_313 ?_
  refine x_cvi2 X hw2 hw (fun i hi j hj => (hdis j hj i hi).symm) [iV ((xs (i + 1)).toInt)] [iV r] (c_M_feed l G adM hw2.2.1.1 τ ((xs (i + 1)).toInt) hV) (cwV 1 X.2.2.2.2 gL_law_X8_feed rfl rfl rfl hd_M_feed ⟨Nat.le_of_ble_eq_true rfl, Nat.le_of_ble_eq_true rfl⟩) lm0 cX8 rfl hl.1 rfl (Nat.le_of_ble_eq_true rfl) dL_law_314 ⟨Nat.le_of_ble_eq_true rfl, Nat.le_of_ble_eq_true rfl⟩ (fun r2 τ1 H locs hq hw2 hw => ?_)
  exact x_icmp_eq X hq.1 rfl 1288 dL_law_317 (by decide) (fun _ => kk H locs σ1 τ1 hw hw2 hq.2) (fun z => absurd rfl z)
set_option maxHeartbeats 2000000 in
set_option maxRecDepth 100000 in
theorem lc_read {p : Program} {l : Launch} {e : Env} {s : State} {m : MethodId} {below : List Frame} {meth : Method} {c : Code} {Q : State → Prop} {b L : Nat} {xs : Nat → Int32} {G : GT} {adX adM : Nat → Nat} {i : Nat} {H : Heap} {locs : List Loc} {ls : Array Slot} {σ τ : St} (X : CallFix p m c cL_law 4 s #[Value.ref b] wsL_law RL) (hX : va_X b L xs s s.heap) (hbl : b < s.heap.size) (hdis : ∀ i, i < LX.length → ∀ j, j < LM.length → adX i ≠ adM j) (hi : i + 5 ≤ L) (hL : L ≤ 2560) (hl : lv_has ls 4 [(3, iV (i : Nat)), (2, .ref (adM 0)), (1, .ref (adX 0)), (0, .ref b)]) (hw : Wy vwCl G LX adX (fun q => s.heap.size ≤ q) s H locs σ) (hw2 : Wy vwCl G LM adM (fun q => s.heap.size ≤ q) s H locs τ) (hR : Rel σ τ) (kk : ∀ (H : Heap) (locs : List Loc) (σ τ : St), Wy vwCl G LX adX (fun q => s.heap.size ≤ q) s H locs σ → Wy vwCl G LM adM (fun q => s.heap.size ≤ q) s H locs τ → Rel σ τ → W p l e room_1 s m #[Value.ref b] below meth c H locs 94 44590 Q (F0 m 1288 ls [])) : W p l e room_1 s m #[Value.ref b] below meth c H locs 94 44590 Q (F0 m 322 ls []) := by
  refine x_aload_n X dL_law_322 rfl (lv_at hl 2 rfl) ?_
  refine x_cvi2 X hw hw2 hdis [] [] (c_P_read l G adX hw.2.1.1 σ (op_read hR)) (cwV 0 X.2.2.2.2 gL_law_X7_read rfl rfl rfl hd_P_read ⟨Nat.le_of_ble_eq_true rfl, Nat.le_of_ble_eq_true rfl⟩) lx0 cX7 rfl hl.1 rfl (Nat.le_of_ble_eq_true rfl) dL_law_323 ⟨Nat.le_of_ble_eq_true rfl, Nat.le_of_ble_eq_true rfl⟩ (fun r σ1 H locs hV hw hw2 => ?_)
  refine x_aload_n X dL_law_326 rfl (lv_at hl 1 rfl) ?_
  refine x_cvi2 X hw2 hw (fun i hi j hj => (hdis j hj i hi).symm) [] [iV r] (c_M_read l G adM hw2.2.1.1 τ hV) (cwV 0 X.2.2.2.2 gL_law_X8_read rfl rfl rfl hd_M_read ⟨Nat.le_of_ble_eq_true rfl, Nat.le_of_ble_eq_true rfl⟩) lm0 cX8 rfl hl.1 rfl (Nat.le_of_ble_eq_true rfl) dL_law_327 ⟨Nat.le_of_ble_eq_true rfl, Nat.le_of_ble_eq_true rfl⟩ (fun r2 τ1 H locs hq hw2 hw => ?_)
  exact x_icmp_eq X hq.1 rfl 1288 dL_law_330 (by decide) (fun _ => kk H locs σ1 τ1 hw hw2 hq.2) (fun z => absurd rfl z)
set_option maxHeartbeats 2000000 in
set_option maxRecDepth 100000 in
theorem lc_spell {p : Program} {l : Launch} {e : Env} {s : State} {m : MethodId} {below : List Frame} {meth : Method} {c : Code} {Q : State → Prop} {b L : Nat} {xs : Nat → Int32} {G : GT} {adX adM : Nat → Nat} {i : Nat} {H : Heap} {locs : List Loc} {ls : Array Slot} {σ τ : St} (X : CallFix p m c cL_law 4 s #[Value.ref b] wsL_law RL) (hX : va_X b L xs s s.heap) (hbl : b < s.heap.size) (hdis : ∀ i, i < LX.length → ∀ j, j < LM.length → adX i ≠ adM j) (hi : i + 5 ≤ L) (hL : L ≤ 2560) (hl : lv_has ls 4 [(3, iV (i : Nat)), (2, .ref (adM 0)), (1, .ref (adX 0)), (0, .ref b)]) (hw : Wy vwCl G LX adX (fun q => s.heap.size ≤ q) s H locs σ) (hw2 : Wy vwCl G LM adM (fun q => s.heap.size ≤ q) s H locs τ) (hR : Rel σ τ) (kk : ∀ (H : Heap) (locs : List Loc) (σ τ : St), Wy vwCl G LX adX (fun q => s.heap.size ≤ q) s H locs σ → Wy vwCl G LM adM (fun q => s.heap.size ≤ q) s H locs τ → Rel σ τ → W p l e room_1 s m #[Value.ref b] below meth c H locs 94 44590 Q (F0 m 1288 ls [])) : W p l e room_1 s m #[Value.ref b] below meth c H locs 94 44590 Q (F0 m 335 ls []) := by
  refine x_aload_n X dL_law_335 rfl (lv_at hl 2 rfl) ?_
  refine x_aload_n X dL_law_336 rfl (lv_at hl 3 rfl) ?_
  refine x_iload_n X dL_law_337 rfl (lv_at hl 0 rfl) ?_
  refine x_iconst X dL_law_338 ?_
  refine x_iadd X dL_law_339 ?_
  refine x_sld X hX hbl hw.2.2.2 (i + 1) (i32_id (by omega) (by omega)) (by omega) dL_law_340 ?_
  refine x_cvi2 X hw hw2 hdis [iV ((xs (i + 1)).toInt)] [] (c_P_spell l G adX hw.2.1.1 σ ((xs (i + 1)).toInt) (op_spell hR (i32_to _))) (cwV 1 X.2.2.2.2 gL_law_X7_spell rfl rfl rfl hd_P_spell ⟨Nat.le_of_ble_eq_true rfl, Nat.le_of_ble_eq_true rfl⟩) lx0 cX7 rfl hl.1 rfl (Nat.le_of_ble_eq_true rfl) dL_law_341 ⟨Nat.le_of_ble_eq_true rfl, Nat.le_of_ble_eq_true rfl⟩ (fun r σ1 H locs hV hw hw2 => ?_)
  refine x_aload_n X dL_law_344 rfl (lv_at hl 1 rfl) ?_
  refine x_aload_n X dL_law_345 rfl (lv_at hl 3 rfl) ?_
  refine x_iload_n X dL_law_346 rfl (lv_at hl 0 rfl) ?_
  refine x_iconst X dL_law_347 ?_
  refine x_iadd X dL_law_348 ?_
  refine x_sld X hX hbl hw.2.2.2 (i + 1) (i32_id (by omega) (by omega)) (by omega) dL_law_349 ?_
  refine x_cvi2 X hw2 hw (fun i hi j hj => (hdis j hj i hi).symm) [iV ((xs (i + 1)).toInt)] [iV r] (c_M_spell l G adM hw2.2.1.1 τ ((xs (i + 1)).toInt) hV) (cwV 1 X.2.2.2.2 gL_law_X8_spell rfl rfl rfl hd_M_spell ⟨Nat.le_of_ble_eq_true rfl, Nat.le_of_ble_eq_true rfl⟩) lm0 cX8 rfl hl.1 rfl (Nat.le_of_ble_eq_true rfl) dL_law_350 ⟨Nat.le_of_ble_eq_true rfl, Nat.le_of_ble_eq_true rfl⟩ (fun r2 τ1 H locs hq hw2 hw => ?_)
  exact x_icmp_eq X hq.1 rfl 1288 dL_law_353 (by decide) (fun _ => kk H locs σ1 τ1 hw hw2 hq.2) (fun z => absurd rfl z)
set_option maxHeartbeats 2000000 in
set_option maxRecDepth 100000 in
theorem lc_word {p : Program} {l : Launch} {e : Env} {s : State} {m : MethodId} {below : List Frame} {meth : Method} {c : Code} {Q : State → Prop} {b L : Nat} {xs : Nat → Int32} {G : GT} {adX adM : Nat → Nat} {i : Nat} {H : Heap} {locs : List Loc} {ls : Array Slot} {σ τ : St} (X : CallFix p m c cL_law 4 s #[Value.ref b] wsL_law RL) (hX : va_X b L xs s s.heap) (hbl : b < s.heap.size) (hdis : ∀ i, i < LX.length → ∀ j, j < LM.length → adX i ≠ adM j) (hi : i + 5 ≤ L) (hL : L ≤ 2560) (hl : lv_has ls 4 [(3, iV (i : Nat)), (2, .ref (adM 0)), (1, .ref (adX 0)), (0, .ref b)]) (hw : Wy vwCl G LX adX (fun q => s.heap.size ≤ q) s H locs σ) (hw2 : Wy vwCl G LM adM (fun q => s.heap.size ≤ q) s H locs τ) (hR : Rel σ τ) (kk : ∀ (H : Heap) (locs : List Loc) (σ τ : St), Wy vwCl G LX adX (fun q => s.heap.size ≤ q) s H locs σ → Wy vwCl G LM adM (fun q => s.heap.size ≤ q) s H locs τ → Rel σ τ → W p l e room_1 s m #[Value.ref b] below meth c H locs 94 44590 Q (F0 m 1288 ls [])) : W p l e room_1 s m #[Value.ref b] below meth c H locs 94 44590 Q (F0 m 358 ls []) := by
  refine x_aload_n X dL_law_358 rfl (lv_at hl 2 rfl) ?_
  refine x_aload_n X dL_law_359 rfl (lv_at hl 3 rfl) ?_
  refine x_iload_n X dL_law_360 rfl (lv_at hl 0 rfl) ?_
  refine x_iconst X dL_law_361 ?_
  refine x_iadd X dL_law_362 ?_
  refine x_sld X hX hbl hw.2.2.2 (i + 1) (i32_id (by omega) (by omega)) (by omega) dL_law_363 ?_
  refine x_aload_n X dL_law_364 rfl (lv_at hl 3 rfl) ?_
  refine x_iload_n X dL_law_365 rfl (lv_at hl 0 rfl) ?_
  refine x_iconst X dL_law_366 ?_
  refine x_iadd X dL_law_367 ?_
  refine x_sld X hX hbl hw.2.2.2 (i + 2) (i32_id (by omega) (by omega)) (by omega) dL_law_368 ?_
  refine x_cvi2 X hw hw2 hdis [iV ((xs (i + 1)).toInt), iV ((xs (i + 2)).toInt)] [] (c_P_word l G adX hw.2.1.1 σ ((xs (i + 1)).toInt) ((xs (i + 2)).toInt) (op_word hR (i32_to _) (i32_to _))) (cwV 2 X.2.2.2.2 gL_law_X7_word rfl rfl rfl hd_P_word ⟨Nat.le_of_ble_eq_true rfl, Nat.le_of_ble_eq_true rfl⟩) lx0 cX7 rfl hl.1 rfl (Nat.le_of_ble_eq_true rfl) dL_law_369 ⟨Nat.le_of_ble_eq_true rfl, Nat.le_of_ble_eq_true rfl⟩ (fun r σ1 H locs hV hw hw2 => ?_)
  refine x_aload_n X dL_law_372 rfl (lv_at hl 1 rfl) ?_
  refine x_aload_n X dL_law_373 rfl (lv_at hl 3 rfl) ?_
  refine x_iload_n X dL_law_374 rfl (lv_at hl 0 rfl) ?_
  refine x_iconst X dL_law_375 ?_
  refine x_iadd X dL_law_376 ?_
  refine x_sld X hX hbl hw.2.2.2 (i + 1) (i32_id (by omega) (by omega)) (by omega) dL_law_377 ?_
  refine x_aload_n X dL_law_378 rfl (lv_at hl 3 rfl) ?_
  refine x_iload_n X dL_law_379 rfl (lv_at hl 0 rfl) ?_
  refine x_iconst X dL_law_380 ?_
  refine x_iadd X dL_law_381 ?_
  refine x_sld X hX hbl hw.2.2.2 (i + 2) (i32_id (by omega) (by omega)) (by omega) dL_law_382 ?_
  refine x_cvi2 X hw2 hw (fun i hi j hj => (hdis j hj i hi).symm) [iV ((xs (i + 1)).toInt), iV ((xs (i + 2)).toInt)] [iV r] (c_M_word l G adM hw2.2.1.1 τ ((xs (i + 1)).toInt) ((xs (i + 2)).toInt) hV) (cwV 2 X.2.2.2.2 gL_law_X8_word rfl rfl rfl hd_M_word ⟨Nat.le_of_ble_eq_true rfl, Nat.le_of_ble_eq_true rfl⟩) lm0 cX8 rfl hl.1 rfl (Nat.le_of_ble_eq_true rfl) dL_law_383 ⟨Nat.le_of_ble_eq_true rfl, Nat.le_of_ble_eq_true rfl⟩ (fun r2 τ1 H locs hq hw2 hw => ?_)
  exact x_icmp_eq X hq.1 rfl 1288 dL_law_386 (by decide) (fun _ => kk H locs σ1 τ1 hw hw2 hq.2) (fun z => absurd rfl z)
set_option maxHeartbeats 2000000 in
set_option maxRecDepth 100000 in
theorem lc_letter {p : Program} {l : Launch} {e : Env} {s : State} {m : MethodId} {below : List Frame} {meth : Method} {c : Code} {Q : State → Prop} {b L : Nat} {xs : Nat → Int32} {G : GT} {adX adM : Nat → Nat} {i : Nat} {H : Heap} {locs : List Loc} {ls : Array Slot} {σ τ : St} (X : CallFix p m c cL_law 4 s #[Value.ref b] wsL_law RL) (hX : va_X b L xs s s.heap) (hbl : b < s.heap.size) (hdis : ∀ i, i < LX.length → ∀ j, j < LM.length → adX i ≠ adM j) (hi : i + 5 ≤ L) (hL : L ≤ 2560) (hl : lv_has ls 4 [(3, iV (i : Nat)), (2, .ref (adM 0)), (1, .ref (adX 0)), (0, .ref b)]) (hw : Wy vwCl G LX adX (fun q => s.heap.size ≤ q) s H locs σ) (hw2 : Wy vwCl G LM adM (fun q => s.heap.size ≤ q) s H locs τ) (hR : Rel σ τ) (kk : ∀ (H : Heap) (locs : List Loc) (σ τ : St), Wy vwCl G LX adX (fun q => s.heap.size ≤ q) s H locs σ → Wy vwCl G LM adM (fun q => s.heap.size ≤ q) s H locs τ → Rel σ τ → W p l e room_1 s m #[Value.ref b] below meth c H locs 94 44590 Q (F0 m 1288 ls [])) : W p l e room_1 s m #[Value.ref b] below meth c H locs 94 44590 Q (F0 m 391 ls []) := by
  refine x_aload_n X dL_law_391 rfl (lv_at hl 2 rfl) ?_
  refine x_aload_n X dL_law_392 rfl (lv_at hl 3 rfl) ?_
  refine x_iload_n X dL_law_393 rfl (lv_at hl 0 rfl) ?_
  refine x_iconst X dL_law_394 ?_
  refine x_iadd X dL_law_395 ?_
  refine x_sld X hX hbl hw.2.2.2 (i + 1) (i32_id (by omega) (by omega)) (by omega) dL_law_396 ?_
  refine x_aload_n X dL_law_397 rfl (lv_at hl 3 rfl) ?_
  refine x_iload_n X dL_law_398 rfl (lv_at hl 0 rfl) ?_
  refine x_iconst X dL_law_399 ?_
  refine x_iadd X dL_law_400 ?_
  refine x_sld X hX hbl hw.2.2.2 (i + 2) (i32_id (by omega) (by omega)) (by omega) dL_law_401 ?_
  refine x_cvi2 X hw hw2 hdis [iV ((xs (i + 1)).toInt), iV ((xs (i + 2)).toInt)] [] (c_P_letter l G adX hw.2.1.1 σ ((xs (i + 1)).toInt) ((xs (i + 2)).toInt) (op_letter hR (i32_to _) (i32_to _))) (cwV 2 X.2.2.2.2 gL_law_X7_letter rfl rfl rfl hd_P_letter ⟨Nat.le_of_ble_eq_true rfl, Nat.le_of_ble_eq_true rfl⟩) lx0 cX7 rfl hl.1 rfl (Nat.le_of_ble_eq_true rfl) dL_law_402 ⟨Nat.le_of_ble_eq_true rfl, Nat.le_of_ble_eq_true rfl⟩ (fun r σ1 H locs hV hw hw2 => ?_)
  refine x_aload_n X dL_law_405 rfl (lv_at hl 1 rfl) ?_
  refine x_aload_n X dL_law_406 rfl (lv_at hl 3 rfl) ?_
  refine x_iload_n X dL_law_407 rfl (lv_at hl 0 rfl) ?_
  refine x_iconst X dL_law_408 ?_
  refine x_iadd X dL_law_409 ?_
  refine x_sld X hX hbl hw.2.2.2 (i + 1) (i32_id (by omega) (by omega)) (by omega) dL_law_410 ?_
  refine x_aload_n X dL_law_411 rfl (lv_at hl 3 rfl) ?_
  refine x_iload_n X dL_law_412 rfl (lv_at hl 0 rfl) ?_
  refine x_iconst X dL_law_413 ?_
  refine x_iadd X dL_law_414 ?_
  refine x_sld X hX hbl hw.2.2.2 (i + 2) (i32_id (by omega) (by omega)) (by omega) dL_law_415 ?_
  refine x_cvi2 X hw2 hw (fun i hi j hj => (hdis j hj i hi).symm) [iV ((xs (i + 1)).toInt), iV ((xs (i + 2)).toInt)] [iV r] (c_M_letter l G adM hw2.2.1.1 τ ((xs (i + 1)).toInt) ((xs (i + 2)).toInt) hV) (cwV 2 X.2.2.2.2 gL_law_X8_letter rfl rfl rfl hd_M_letter ⟨Nat.le_of_ble_eq_true rfl, Nat.le_of_ble_eq_true rfl⟩) lm0 cX8 rfl hl.1 rfl (Nat.le_of_ble_eq_true rfl) dL_law_416 ⟨Nat.le_of_ble_eq_true rfl, Nat.le_of_ble_eq_true rfl⟩ (fun r2 τ1 H locs hq hw2 hw => ?_)
  exact x_icmp_eq X hq.1 rfl 1288 dL_law_419 (by decide) (fun _ => kk H locs σ1 τ1 hw hw2 hq.2) (fun z => absurd rfl z)
set_option maxHeartbeats 2000000 in
set_option maxRecDepth 100000 in
theorem lc_stitches {p : Program} {l : Launch} {e : Env} {s : State} {m : MethodId} {below : List Frame} {meth : Method} {c : Code} {Q : State → Prop} {b L : Nat} {xs : Nat → Int32} {G : GT} {adX adM : Nat → Nat} {i : Nat} {H : Heap} {locs : List Loc} {ls : Array Slot} {σ τ : St} (X : CallFix p m c cL_law 4 s #[Value.ref b] wsL_law RL) (hX : va_X b L xs s s.heap) (hbl : b < s.heap.size) (hdis : ∀ i, i < LX.length → ∀ j, j < LM.length → adX i ≠ adM j) (hi : i + 5 ≤ L) (hL : L ≤ 2560) (hl : lv_has ls 4 [(3, iV (i : Nat)), (2, .ref (adM 0)), (1, .ref (adX 0)), (0, .ref b)]) (hw : Wy vwCl G LX adX (fun q => s.heap.size ≤ q) s H locs σ) (hw2 : Wy vwCl G LM adM (fun q => s.heap.size ≤ q) s H locs τ) (hR : Rel σ τ) (kk : ∀ (H : Heap) (locs : List Loc) (σ τ : St), Wy vwCl G LX adX (fun q => s.heap.size ≤ q) s H locs σ → Wy vwCl G LM adM (fun q => s.heap.size ≤ q) s H locs τ → Rel σ τ → W p l e room_1 s m #[Value.ref b] below meth c H locs 94 44590 Q (F0 m 1288 ls [])) : W p l e room_1 s m #[Value.ref b] below meth c H locs 94 44590 Q (F0 m 424 ls []) := by
  refine x_aload_n X dL_law_424 rfl (lv_at hl 2 rfl) ?_
  refine x_aload_n X dL_law_425 rfl (lv_at hl 3 rfl) ?_
  refine x_iload_n X dL_law_426 rfl (lv_at hl 0 rfl) ?_
  refine x_iconst X dL_law_427 ?_
  refine x_iadd X dL_law_428 ?_
  refine x_sld X hX hbl hw.2.2.2 (i + 1) (i32_id (by omega) (by omega)) (by omega) dL_law_429 ?_
  refine x_cvi2 X hw hw2 hdis [iV ((xs (i + 1)).toInt)] [] (c_P_stitches l G adX hw.2.1.1 σ ((xs (i + 1)).toInt) (op_stitches hR (i32_to _))) (cwV 1 X.2.2.2.2 gL_law_X7_stitches rfl rfl rfl hd_P_stitches ⟨Nat.le_of_ble_eq_true rfl, Nat.le_of_ble_eq_true rfl⟩) lx0 cX7 rfl hl.1 rfl (Nat.le_of_ble_eq_true rfl) dL_law_430 ⟨Nat.le_of_ble_eq_true rfl, Nat.le_of_ble_eq_true rfl⟩ (fun r σ1 H locs hV hw hw2 => ?_)
  refine x_aload_n X dL_law_433 rfl (lv_at hl 1 rfl) ?_
  refine x_aload_n X dL_law_434 rfl (lv_at hl 3 rfl) ?_
  refine x_iload_n X dL_law_435 rfl (lv_at hl 0 rfl) ?_
  refine x_iconst X dL_law_436 ?_
  refine x_iadd X dL_law_437 ?_
  refine x_sld X hX hbl hw.2.2.2 (i + 1) (i32_id (by omega) (by omega)) (by omega) dL_law_438 ?_
  refine x_cvi2 X hw2 hw (fun i hi j hj => (hdis j hj i hi).symm) [iV ((xs (i + 1)).toInt)] [iV r] (c_M_stitches l G adM hw2.2.1.1 τ ((xs (i + 1)).toInt) hV) (cwV 1 X.2.2.2.2 gL_law_X8_stitches rfl rfl rfl hd_M_stitches ⟨Nat.le_of_ble_eq_true rfl, Nat.le_of_ble_eq_true rfl⟩) lm0 cX8 rfl hl.1 rfl (Nat.le_of_ble_eq_true rfl) dL_law_439 ⟨Nat.le_of_ble_eq_true rfl, Nat.le_of_ble_eq_true rfl⟩ (fun r2 τ1 H locs hq hw2 hw => ?_)
  exact x_icmp_eq X hq.1 rfl 1288 dL_law_442 (by decide) (fun _ => kk H locs σ1 τ1 hw hw2 hq.2) (fun z => absurd rfl z)
set_option maxHeartbeats 2000000 in
set_option maxRecDepth 100000 in
theorem lc_stitch {p : Program} {l : Launch} {e : Env} {s : State} {m : MethodId} {below : List Frame} {meth : Method} {c : Code} {Q : State → Prop} {b L : Nat} {xs : Nat → Int32} {G : GT} {adX adM : Nat → Nat} {i : Nat} {H : Heap} {locs : List Loc} {ls : Array Slot} {σ τ : St} (X : CallFix p m c cL_law 4 s #[Value.ref b] wsL_law RL) (hX : va_X b L xs s s.heap) (hbl : b < s.heap.size) (hdis : ∀ i, i < LX.length → ∀ j, j < LM.length → adX i ≠ adM j) (hi : i + 5 ≤ L) (hL : L ≤ 2560) (hl : lv_has ls 4 [(3, iV (i : Nat)), (2, .ref (adM 0)), (1, .ref (adX 0)), (0, .ref b)]) (hw : Wy vwCl G LX adX (fun q => s.heap.size ≤ q) s H locs σ) (hw2 : Wy vwCl G LM adM (fun q => s.heap.size ≤ q) s H locs τ) (hR : Rel σ τ) (kk : ∀ (H : Heap) (locs : List Loc) (σ τ : St), Wy vwCl G LX adX (fun q => s.heap.size ≤ q) s H locs σ → Wy vwCl G LM adM (fun q => s.heap.size ≤ q) s H locs τ → Rel σ τ → W p l e room_1 s m #[Value.ref b] below meth c H locs 94 44590 Q (F0 m 1288 ls [])) : W p l e room_1 s m #[Value.ref b] below meth c H locs 94 44590 Q (F0 m 447 ls []) := by
  refine x_aload_n X dL_law_447 rfl (lv_at hl 2 rfl) ?_
  refine x_aload_n X dL_law_448 rfl (lv_at hl 3 rfl) ?_
  refine x_iload_n X dL_law_449 rfl (lv_at hl 0 rfl) ?_
  refine x_iconst X dL_law_450 ?_
  refine x_iadd X dL_law_451 ?_
  refine x_sld X hX hbl hw.2.2.2 (i + 1) (i32_id (by omega) (by omega)) (by omega) dL_law_452 ?_
  refine x_aload_n X dL_law_453 rfl (lv_at hl 3 rfl) ?_
  refine x_iload_n X dL_law_454 rfl (lv_at hl 0 rfl) ?_
  refine x_iconst X dL_law_455 ?_
  refine x_iadd X dL_law_456 ?_
  refine x_sld X hX hbl hw.2.2.2 (i + 2) (i32_id (by omega) (by omega)) (by omega) dL_law_457 ?_
  refine x_cvi2 X hw hw2 hdis [iV ((xs (i + 1)).toInt), iV ((xs (i + 2)).toInt)] [] (c_P_stitch l G adX hw.2.1.1 σ ((xs (i + 1)).toInt) ((xs (i + 2)).toInt) (op_stitch hR (i32_to _) (i32_to _))) (cwV 2 X.2.2.2.2 gL_law_X7_stitch rfl rfl rfl hd_P_stitch ⟨Nat.le_of_ble_eq_true rfl, Nat.le_of_ble_eq_true rfl⟩) lx0 cX7 rfl hl.1 rfl (Nat.le_of_ble_eq_true rfl) dL_law_458 ⟨Nat.le_of_ble_eq_true rfl, Nat.le_of_ble_eq_true rfl⟩ (fun r σ1 H locs hV hw hw2 => ?_)
  refine x_aload_n X dL_law_461 rfl (lv_at hl 1 rfl) ?_
  refine x_aload_n X dL_law_462 rfl (lv_at hl 3 rfl) ?_
  refine x_iload_n X dL_law_463 rfl (lv_at hl 0 rfl) ?_
  refine x_iconst X dL_law_464 ?_
  refine x_iadd X dL_law_465 ?_
  refine x_sld X hX hbl hw.2.2.2 (i + 1) (i32_id (by omega) (by omega)) (by omega) dL_law_466 ?_
  refine x_aload_n X dL_law_467 rfl (lv_at hl 3 rfl) ?_
  refine x_iload_n X dL_law_468 rfl (lv_at hl 0 rfl) ?_
  refine x_iconst X dL_law_469 ?_
  refine x_iadd X dL_law_470 ?_
  refine x_sld X hX hbl hw.2.2.2 (i + 2) (i32_id (by omega) (by omega)) (by omega) dL_law_471 ?_
  refine x_cvi2 X hw2 hw (fun i hi j hj => (hdis j hj i hi).symm) [iV ((xs (i + 1)).toInt), iV ((xs (i + 2)).toInt)] [iV r] (c_M_stitch l G adM hw2.2.1.1 τ ((xs (i + 1)).toInt) ((xs (i + 2)).toInt) hV) (cwV 2 X.2.2.2.2 gL_law_X8_stitch rfl rfl rfl hd_M_stitch ⟨Nat.le_of_ble_eq_true rfl, Nat.le_of_ble_eq_true rfl⟩) lm0 cX8 rfl hl.1 rfl (Nat.le_of_ble_eq_true rfl) dL_law_472 ⟨Nat.le_of_ble_eq_true rfl, Nat.le_of_ble_eq_true rfl⟩ (fun r2 τ1 H locs hq hw2 hw => ?_)
  exact x_icmp_eq X hq.1 rfl 1288 dL_law_475 (by decide) (fun _ => kk H locs σ1 τ1 hw hw2 hq.2) (fun z => absurd rfl z)
set_option maxHeartbeats 2000000 in
set_option maxRecDepth 100000 in
theorem lc_ahead {p : Program} {l : Launch} {e : Env} {s : State} {m : MethodId} {below : List Frame} {meth : Method} {c : Code} {Q : State → Prop} {b L : Nat} {xs : Nat → Int32} {G : GT} {adX adM : Nat → Nat} {i : Nat} {H : Heap} {locs : List Loc} {ls : Array Slot} {σ τ : St} (X : CallFix p m c cL_law 4 s #[Value.ref b] wsL_law RL) (hX : va_X b L xs s s.heap) (hbl : b < s.heap.size) (hdis : ∀ i, i < LX.length → ∀ j, j < LM.length → adX i ≠ adM j) (hi : i + 5 ≤ L) (hL : L ≤ 2560) (hl : lv_has ls 4 [(3, iV (i : Nat)), (2, .ref (adM 0)), (1, .ref (adX 0)), (0, .ref b)]) (hw : Wy vwCl G LX adX (fun q => s.heap.size ≤ q) s H locs σ) (hw2 : Wy vwCl G LM adM (fun q => s.heap.size ≤ q) s H locs τ) (hR : Rel σ τ) (kk : ∀ (H : Heap) (locs : List Loc) (σ τ : St), Wy vwCl G LX adX (fun q => s.heap.size ≤ q) s H locs σ → Wy vwCl G LM adM (fun q => s.heap.size ≤ q) s H locs τ → Rel σ τ → W p l e room_1 s m #[Value.ref b] below meth c H locs 94 44590 Q (F0 m 1288 ls [])) : W p l e room_1 s m #[Value.ref b] below meth c H locs 94 44590 Q (F0 m 480 ls []) := by
  refine x_aload_n X dL_law_480 rfl (lv_at hl 2 rfl) ?_
  refine x_aload_n X dL_law_481 rfl (lv_at hl 3 rfl) ?_
  refine x_iload_n X dL_law_482 rfl (lv_at hl 0 rfl) ?_
  refine x_iconst X dL_law_483 ?_
  refine x_iadd X dL_law_484 ?_
  refine x_sld X hX hbl hw.2.2.2 (i + 1) (i32_id (by omega) (by omega)) (by omega) dL_law_485 ?_
  refine x_aload_n X dL_law_486 rfl (lv_at hl 3 rfl) ?_
  refine x_iload_n X dL_law_487 rfl (lv_at hl 0 rfl) ?_
  refine x_iconst X dL_law_488 ?_
  refine x_iadd X dL_law_489 ?_
  refine x_sld X hX hbl hw.2.2.2 (i + 2) (i32_id (by omega) (by omega)) (by omega) dL_law_490 ?_
  refine x_cvi2 X hw hw2 hdis [iV ((xs (i + 1)).toInt), iV ((xs (i + 2)).toInt)] [] (c_P_ahead l G adX hw.2.1.1 σ ((xs (i + 1)).toInt) ((xs (i + 2)).toInt) (op_ahead hR (i32_to _) (i32_to _))) (cwV 2 X.2.2.2.2 gL_law_X7_ahead rfl rfl rfl hd_P_ahead ⟨Nat.le_of_ble_eq_true rfl, Nat.le_of_ble_eq_true rfl⟩) lx0 cX7 rfl hl.1 rfl (Nat.le_of_ble_eq_true rfl) dL_law_491 ⟨Nat.le_of_ble_eq_true rfl, Nat.le_of_ble_eq_true rfl⟩ (fun r σ1 H locs hV hw hw2 => ?_)
  refine x_aload_n X dL_law_494 rfl (lv_at hl 1 rfl) ?_
  refine x_aload_n X dL_law_495 rfl (lv_at hl 3 rfl) ?_
  refine x_iload_n X dL_law_496 rfl (lv_at hl 0 rfl) ?_
  refine x_iconst X dL_law_497 ?_
  refine x_iadd X dL_law_498 ?_
  refine x_sld X hX hbl hw.2.2.2 (i + 1) (i32_id (by omega) (by omega)) (by omega) dL_law_499 ?_
  refine x_aload_n X dL_law_500 rfl (lv_at hl 3 rfl) ?_
  refine x_iload_n X dL_law_501 rfl (lv_at hl 0 rfl) ?_
  refine x_iconst X dL_law_502 ?_
  refine x_iadd X dL_law_503 ?_
  refine x_sld X hX hbl hw.2.2.2 (i + 2) (i32_id (by omega) (by omega)) (by omega) dL_law_504 ?_
  refine x_cvi2 X hw2 hw (fun i hi j hj => (hdis j hj i hi).symm) [iV ((xs (i + 1)).toInt), iV ((xs (i + 2)).toInt)] [iV r] (c_M_ahead l G adM hw2.2.1.1 τ ((xs (i + 1)).toInt) ((xs (i + 2)).toInt) hV) (cwV 2 X.2.2.2.2 gL_law_X8_ahead rfl rfl rfl hd_M_ahead ⟨Nat.le_of_ble_eq_true rfl, Nat.le_of_ble_eq_true rfl⟩) lm0 cX8 rfl hl.1 rfl (Nat.le_of_ble_eq_true rfl) dL_law_505 ⟨Nat.le_of_ble_eq_true rfl, Nat.le_of_ble_eq_true rfl⟩ (fun r2 τ1 H locs hq hw2 hw => ?_)
  exact x_icmp_eq X hq.1 rfl 1288 dL_law_508 (by decide) (fun _ => kk H locs σ1 τ1 hw hw2 hq.2) (fun z => absurd rfl z)
set_option maxHeartbeats 2000000 in
set_option maxRecDepth 100000 in
theorem lc_orders {p : Program} {l : Launch} {e : Env} {s : State} {m : MethodId} {below : List Frame} {meth : Method} {c : Code} {Q : State → Prop} {b L : Nat} {xs : Nat → Int32} {G : GT} {adX adM : Nat → Nat} {i : Nat} {H : Heap} {locs : List Loc} {ls : Array Slot} {σ τ : St} (X : CallFix p m c cL_law 4 s #[Value.ref b] wsL_law RL) (hX : va_X b L xs s s.heap) (hbl : b < s.heap.size) (hdis : ∀ i, i < LX.length → ∀ j, j < LM.length → adX i ≠ adM j) (hi : i + 5 ≤ L) (hL : L ≤ 2560) (hl : lv_has ls 4 [(3, iV (i : Nat)), (2, .ref (adM 0)), (1, .ref (adX 0)), (0, .ref b)]) (hw : Wy vwCl G LX adX (fun q => s.heap.size ≤ q) s H locs σ) (hw2 : Wy vwCl G LM adM (fun q => s.heap.size ≤ q) s H locs τ) (hR : Rel σ τ) (kk : ∀ (H : Heap) (locs : List Loc) (σ τ : St), Wy vwCl G LX adX (fun q => s.heap.size ≤ q) s H locs σ → Wy vwCl G LM adM (fun q => s.heap.size ≤ q) s H locs τ → Rel σ τ → W p l e room_1 s m #[Value.ref b] below meth c H locs 94 44590 Q (F0 m 1288 ls [])) : W p l e room_1 s m #[Value.ref b] below meth c H locs 94 44590 Q (F0 m 513 ls []) := by
  refine x_aload_n X dL_law_513 rfl (lv_at hl 2 rfl) ?_
  refine x_cvl2 X hw hw2 hdis [] [] (c_P_orders l G adX hw.2.1.1 σ (op_orders hR)) (cwV 0 X.2.2.2.2 gL_law_X7_orders rfl rfl rfl hd_P_orders ⟨Nat.le_of_ble_eq_true rfl, Nat.le_of_ble_eq_true rfl⟩) lx0 cX7 rfl hl.1 rfl (Nat.le_of_ble_eq_true rfl) dL_law_514 ⟨Nat.le_of_ble_eq_true rfl, Nat.le_of_ble_eq_true rfl⟩ (fun r σ1 H locs hV hw hw2 => ?_)
  refine x_aload_n X dL_law_517 rfl (lv_at hl 1 rfl) ?_
  refine x_cvl2 X hw2 hw (fun i hi j hj => (hdis j hj i hi).symm) [] [lV r] (c_M_orders l G adM hw2.2.1.1 τ hV) (cwV 0 X.2.2.2.2 gL_law_X8_orders rfl rfl rfl hd_M_orders ⟨Nat.le_of_ble_eq_true rfl, Nat.le_of_ble_eq_true rfl⟩) lm0 cX8 rfl hl.1 rfl (Nat.le_of_ble_eq_true rfl) dL_law_518 ⟨Nat.le_of_ble_eq_true rfl, Nat.le_of_ble_eq_true rfl⟩ (fun r2 τ1 H locs hq hw2 hw => ?_)
  exact x_lcmp_eq X hq.1 rfl 1288 dL_law_521 dL_law_522 (by decide) (fun _ => kk H locs σ1 τ1 hw hw2 hq.2) (fun z => absurd rfl z)
set_option maxHeartbeats 2000000 in
set_option maxRecDepth 100000 in
theorem lc_order {p : Program} {l : Launch} {e : Env} {s : State} {m : MethodId} {below : List Frame} {meth : Method} {c : Code} {Q : State → Prop} {b L : Nat} {xs : Nat → Int32} {G : GT} {adX adM : Nat → Nat} {i : Nat} {H : Heap} {locs : List Loc} {ls : Array Slot} {σ τ : St} (X : CallFix p m c cL_law 4 s #[Value.ref b] wsL_law RL) (hX : va_X b L xs s s.heap) (hbl : b < s.heap.size) (hdis : ∀ i, i < LX.length → ∀ j, j < LM.length → adX i ≠ adM j) (hi : i + 5 ≤ L) (hL : L ≤ 2560) (hl : lv_has ls 4 [(3, iV (i : Nat)), (2, .ref (adM 0)), (1, .ref (adX 0)), (0, .ref b)]) (hw : Wy vwCl G LX adX (fun q => s.heap.size ≤ q) s H locs σ) (hw2 : Wy vwCl G LM adM (fun q => s.heap.size ≤ q) s H locs τ) (hR : Rel σ τ) (kk : ∀ (H : Heap) (locs : List Loc) (σ τ : St), Wy vwCl G LX adX (fun q => s.heap.size ≤ q) s H locs σ → Wy vwCl G LM adM (fun q => s.heap.size ≤ q) s H locs τ → Rel σ τ → W p l e room_1 s m #[Value.ref b] below meth c H locs 94 44590 Q (F0 m 1288 ls [])) : W p l e room_1 s m #[Value.ref b] below meth c H locs 94 44590 Q (F0 m 527 ls []) := by
  refine x_aload_n X dL_law_527 rfl (lv_at hl 2 rfl) ?_
  refine x_aload_n X dL_law_528 rfl (lv_at hl 3 rfl) ?_
  refine x_iload_n X dL_law_529 rfl (lv_at hl 0 rfl) ?_
  refine x_iconst X dL_law_530 ?_
  refine x_iadd X dL_law_531 ?_
  refine x_sld X hX hbl hw.2.2.2 (i + 1) (i32_id (by omega) (by omega)) (by omega) dL_law_532 ?_
  refine x_i2l X dL_law_533 ?_
  refine x_bipush X dL_law_534 (by decide) ?_
  refine x_lshl X dL_law_536 ?_
  refine x_aload_n X dL_law_537 rfl (lv_at hl 3 rfl) ?_
  refine x_iload_n X dL_law_538 rfl (lv_at hl 0 rfl) ?_
  refine x_iconst X dL_law_539 ?_
  refine x_iadd X dL_law_540 ?_
  refine x_sld X hX hbl hw.2.2.2 (i + 2) (i32_id (by omega) (by omega)) (by omega) dL_law_541 ?_
  refine x_i2l X dL_law_542 ?_
  refine x_ldc2 X 4294967295 nL_ld66 (by decide +kernel) dL_law_543 ?_
  refine x_land X dL_law_546 ?_
  refine x_lor X dL_law_547 ?_
  refine x_aload_n X dL_law_548 rfl (lv_at hl 3 rfl) ?_
  refine x_iload_n X dL_law_549 rfl (lv_at hl 0 rfl) ?_
  refine x_iconst X dL_law_550 ?_
  refine x_iadd X dL_law_551 ?_
  refine x_sld X hX hbl hw.2.2.2 (i + 3) (i32_id (by omega) (by omega)) (by omega) dL_law_552 ?_
  refine x_cvi2 X hw hw2 hdis [lV (lro (lsh (i32 (xs (i + 1)).toInt) 32) (lan (i32 (xs (i + 2)).toInt) 4294967295)), iV ((xs (i + 3)).toInt)] [] (c_P_order l G adX hw.2.1.1 σ (lro (lsh (i32 (xs (i + 1)).toInt) 32) (lan (i32 (xs (i + 2)).toInt) 4294967295)) ((xs (i + 3)).toInt) (op_order hR (i64_lro _ _) (i32_to _))) (cwV 2 X.2.2.2.2 gL_law_X7_order rfl rfl rfl hd_P_order ⟨Nat.le_of_ble_eq_true rfl, Nat.le_of_ble_eq_true rfl⟩) lx0 cX7 rfl hl.1 rfl (Nat.le_of_ble_eq_true rfl) dL_law_553 ⟨Nat.le_of_ble_eq_true rfl, Nat.le_of_ble_eq_true rfl⟩ (fun r σ1 H locs hV hw hw2 => ?_)
  refine x_aload_n X dL_law_556 rfl (lv_at hl 1 rfl) ?_
  refine x_aload_n X dL_law_557 rfl (lv_at hl 3 rfl) ?_
  refine x_iload_n X dL_law_558 rfl (lv_at hl 0 rfl) ?_
  refine x_iconst X dL_law_559 ?_
  refine x_iadd X dL_law_560 ?_
  refine x_sld X hX hbl hw.2.2.2 (i + 1) (i32_id (by omega) (by omega)) (by omega) dL_law_561 ?_
  refine x_i2l X dL_law_562 ?_
  refine x_bipush X dL_law_563 (by decide) ?_
  refine x_lshl X dL_law_565 ?_
  refine x_aload_n X dL_law_566 rfl (lv_at hl 3 rfl) ?_
  refine x_iload_n X dL_law_567 rfl (lv_at hl 0 rfl) ?_
  refine x_iconst X dL_law_568 ?_
  refine x_iadd X dL_law_569 ?_
  refine x_sld X hX hbl hw.2.2.2 (i + 2) (i32_id (by omega) (by omega)) (by omega) dL_law_570 ?_
  refine x_i2l X dL_law_571 ?_
  refine x_ldc2 X 4294967295 nL_ld66 (by decide +kernel) dL_law_572 ?_
  refine x_land X dL_law_575 ?_
  refine x_lor X dL_law_576 ?_
  refine x_aload_n X dL_law_577 rfl (lv_at hl 3 rfl) ?_
  refine x_iload_n X dL_law_578 rfl (lv_at hl 0 rfl) ?_
  refine x_iconst X dL_law_579 ?_
  refine x_iadd X dL_law_580 ?_
  refine x_sld X hX hbl hw.2.2.2 (i + 3) (i32_id (by omega) (by omega)) (by omega) dL_law_581 ?_
  refine x_cvi2 X hw2 hw (fun i hi j hj => (hdis j hj i hi).symm) [lV (lro (lsh (i32 (xs (i + 1)).toInt) 32) (lan (i32 (xs (i + 2)).toInt) 4294967295)), iV ((xs (i + 3)).toInt)] [iV r] (c_M_order l G adM hw2.2.1.1 τ (lro (lsh (i32 (xs (i + 1)).toInt) 32) (lan (i32 (xs (i + 2)).toInt) 4294967295)) ((xs (i + 3)).toInt) hV) (cwV 2 X.2.2.2.2 gL_law_X8_order rfl rfl rfl hd_M_order ⟨Nat.le_of_ble_eq_true rfl, Nat.le_of_ble_eq_true rfl⟩) lm0 cX8 rfl hl.1 rfl (Nat.le_of_ble_eq_true rfl) dL_law_582 ⟨Nat.le_of_ble_eq_true rfl, Nat.le_of_ble_eq_true rfl⟩ (fun r2 τ1 H locs hq hw2 hw => ?_)
  exact x_icmp_eq X hq.1 rfl 1288 dL_law_585 (by decide) (fun _ => kk H locs σ1 τ1 hw hw2 hq.2) (fun z => absurd rfl z)
