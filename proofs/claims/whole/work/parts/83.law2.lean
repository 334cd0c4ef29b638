-- THE LAW: its cases
set_option maxHeartbeats 2000000 in
set_option maxRecDepth 100000 in
theorem lc_lace {p : Program} {l : Launch} {e : Env} {s : State} {m : MethodId} {below : List Frame} {meth : Method} {c : Code} {Q : State → Prop} {b L : Nat} {xs : Nat → Int32} {G : GT} {adX adM : Nat → Nat} {i : Nat} {H : Heap} {locs : List Loc} {ls : Array Slot} {σ τ : St} (X : CallFix p m c cL_law 4 s #[Value.ref b] wsL_law RL) (hX : va_X b L xs s s.heap) (hbl : b < s.heap.size) (hdis : ∀ i, i < LX.length → ∀ j, j < LM.length → adX i ≠ adM j) (hi : i + 5 ≤ L) (hL : L ≤ 2560) (hl : lv_has ls 4 [(3, iV (i : Nat)), (2, .ref (adM 0)), (1, .ref (adX 0)), (0, .ref b)]) (hw : Wy vwCl G LX adX (fun q => s.heap.size ≤ q) s H locs σ) (hw2 : Wy vwCl G LM adM (fun q => s.heap.size ≤ q) s H locs τ) (hR : Rel σ τ) (kk : ∀ (H : Heap) (locs : List Loc) (σ τ : St), Wy vwCl G LX adX (fun q => s.heap.size ≤ q) s H locs σ → Wy vwCl G LM adM (fun q => s.heap.size ≤ q) s H locs τ → Rel σ τ → W p l e room_1 s m #[Value.ref b] below meth c H locs 94 44590 Q (F0 m 1288 ls [])) : W p l e room_1 s m #[Value.ref b] below meth c H locs 94 44590 Q (F0 m 921 ls []) := by
  refine x_aload_n X dL_law_921 rfl (lv_at hl 2 rfl) ?_
  refine x_aload_n X dL_law_922 rfl (lv_at hl 3 rfl) ?_
  refine x_iload_n X dL_law_923 rfl (lv_at hl 0 rfl) ?_
  refine x_iconst X dL_law_924 ?_
  refine x_iadd X dL_law_925 ?_
  refine x_sld X hX hbl hw.2.2.2 (i + 1) (i32_id (by omega) (by omega)) (by omega) dL_law_926 ?_
  refine x_aload_n X dL_law_927 rfl (lv_at hl 3 rfl) ?_
  refine x_iload_n X dL_law_928 rfl (lv_at hl 0 rfl) ?_
  refine x_iconst X dL_law_929 ?_
  refine x_iadd X dL_law_930 ?_
  refine x_sld X hX hbl hw.2.2.2 (i + 2) (i32_id (by omega) (by omega)) (by omega) dL_law_931 ?_
  refine x_cvi2 X hw hw2 hdis [iV ((xs (i + 1)).toInt), iV ((xs (i + 2)).toInt)] [] (c_P_lace l G adX hw.2.1.1 σ ((xs (i + 1)).toInt) ((xs (i + 2)).toInt) (op_lace hR (i32_to _) (i32_to _))) (cwV 2 X.2.2.2.2 gL_law_X7_lace rfl rfl rfl hd_P_lace ⟨Nat.le_of_ble_eq_true rfl, Nat.le_of_ble_eq_true rfl⟩) lx0 cX7 rfl hl.1 rfl (Nat.le_of_ble_eq_true rfl) dL_law_932 ⟨Nat.le_of_ble_eq_true rfl, Nat.le_of_ble_eq_true rfl⟩ (fun r σ1 H locs hV hw hw2 => ?_)
  refine x_aload_n X dL_law_935 rfl (lv_at hl 1 rfl) ?_
  refine x_aload_n X dL_law_936 rfl (lv_at hl 3 rfl) ?_
  refine x_iload_n X dL_law_937 rfl (lv_at hl 0 rfl) ?_
  refine x_iconst X dL_law_938 ?_
  refine x_iadd X dL_law_939 ?_
  refine x_sld X hX hbl hw.2.2.2 (i + 1) (i32_id (by omega) (by omega)) (by omega) dL_law_940 ?_
  refine x_aload_n X dL_law_941 rfl (lv_at hl 3 rfl) ?_
  refine x_iload_n X dL_law_942 rfl (lv_at hl 0 rfl) ?_
  refine x_iconst X dL_law_943 ?_
  refine x_iadd X dL_law_944 ?_
  refine x_sld X hX hbl hw.2.2.2 (i + 2) (i32_id (by omega) (by omega)) (by omega) dL_law_945 ?_
  refine x_cvi2 X hw2 hw (fun i hi j hj => (hdis j hj i hi).symm) [iV ((xs (i + 1)).toInt), iV ((xs (i + 2)).toInt)] [iV r] (c_M_lace l G adM hw2.2.1.1 τ ((xs (i + 1)).toInt) ((xs (i + 2)).toInt) hV) (cwV 2 X.2.2.2.2 gL_law_X8_lace rfl rfl rfl hd_M_lace ⟨Nat.le_of_ble_eq_true rfl, Nat.le_of_ble_eq_true rfl⟩) lm0 cX8 rfl hl.1 rfl (Nat.le_of_ble_eq_true rfl) dL_law_946 ⟨Nat.le_of_ble_eq_true rfl, Nat.le_of_ble_eq_true rfl⟩ (fun r2 τ1 H locs hq hw2 hw => ?_)
  exact x_icmp_eq X hq.1 rfl 1288 dL_law_949 (by decide) (fun _ => kk H locs σ1 τ1 hw hw2 hq.2) (fun z => absurd rfl z)
set_option maxHeartbeats 2000000 in
set_option maxRecDepth 100000 in
theorem lc_layer {p : Program} {l : Launch} {e : Env} {s : State} {m : MethodId} {below : List Frame} {meth : Method} {c : Code} {Q : State → Prop} {b L : Nat} {xs : Nat → Int32} {G : GT} {adX adM : Nat → Nat} {i : Nat} {H : Heap} {locs : List Loc} {ls : Array Slot} {σ τ : St} (X : CallFix p m c cL_law 4 s #[Value.ref b] wsL_law RL) (hX : va_X b L xs s s.heap) (hbl : b < s.heap.size) (hdis : ∀ i, i < LX.length → ∀ j, j < LM.length → adX i ≠ adM j) (hi : i + 5 ≤ L) (hL : L ≤ 2560) (hl : lv_has ls 4 [(3, iV (i : Nat)), (2, .ref (adM 0)), (1, .ref (adX 0)), (0, .ref b)]) (hw : Wy vwCl G LX adX (fun q => s.heap.size ≤ q) s H locs σ) (hw2 : Wy vwCl G LM adM (fun q => s.heap.size ≤ q) s H locs τ) (hR : Rel σ τ) (kk : ∀ (H : Heap) (locs : List Loc) (σ τ : St), Wy vwCl G LX adX (fun q => s.heap.size ≤ q) s H locs σ → Wy vwCl G LM adM (fun q => s.heap.size ≤ q) s H locs τ → Rel σ τ → W p l e room_1 s m #[Value.ref b] below meth c H locs 94 44590 Q (F0 m 1288 ls [])) : W p l e room_1 s m #[Value.ref b] below meth c H locs 94 44590 Q (F0 m 954 ls []) := by
  refine x_aload_n X dL_law_954 rfl (lv_at hl 2 rfl) ?_
  refine x_aload_n X dL_law_955 rfl (lv_at hl 3 rfl) ?_
  refine x_iload_n X dL_law_956 rfl (lv_at hl 0 rfl) ?_
  refine x_iconst X dL_law_957 ?_
  refine x_iadd X dL_law_958 ?_
  refine x_sld X hX hbl hw.2.2.2 (i + 1) (i32_id (by omega) (by omega)) (by omega) dL_law_959 ?_
  refine x_aload_n X dL_law_960 rfl (lv_at hl 3 rfl) ?_
  refine x_iload_n X dL_law_961 rfl (lv_at hl 0 rfl) ?_
  refine x_iconst X dL_law_962 ?_
  refine x_iadd X dL_law_963 ?_
  refine x_sld X hX hbl hw.2.2.2 (i + 2) (i32_id (by omega) (by omega)) (by omega) dL_law_964 ?_
  refine x_aload_n X dL_law_965 rfl (lv_at hl 3 rfl) ?_
  refine x_iload_n X dL_law_966 rfl (lv_at hl 0 rfl) ?_
  refine x_iconst X dL_law_967 ?_
  refine x_iadd X dL_law_968 ?_
  refine x_sld X hX hbl hw.2.2.2 (i + 3) (i32_id (by omega) (by omega)) (by omega) dL_law_969 ?_
  refine x_cvi2 X hw hw2 hdis [iV ((xs (i + 1)).toInt), iV ((xs (i + 2)).toInt), iV ((xs (i + 3)).toInt)] [] (c_P_layer l G adX hw.2.1.1 σ ((xs (i + 1)).toInt) ((xs (i + 2)).toInt) ((xs (i + 3)).toInt) (op_layer hR (i32_to _) (i32_to _) (i32_to _))) (cwV 3 X.2.2.2.2 gL_law_X7_layer rfl rfl rfl hd_P_layer ⟨Nat.le_of_ble_eq_true rfl, Nat.le_of_ble_eq_true rfl⟩) lx0 cX7 rfl hl.1 rfl (Nat.le_of_ble_eq_true rfl) dL_law_970 ⟨Nat.le_of_ble_eq_true rfl, Nat.le_of_ble_eq_true rfl⟩ (fun r σ1 H locs hV hw hw2 => ?_)
  refine x_aload_n X dL_law_973 rfl (lv_at hl 1 rfl) ?_
  refine x_aload_n X dL_law_974 rfl (lv_at hl 3 rfl) ?_
  refine x_iload_n X dL_law_975 rfl (lv_at hl 0 rfl) ?_
  refine x_iconst X dL_law_976 ?_
  refine x_iadd X dL_law_977 ?_
  refine x_sld X hX hbl hw.2.2.2 (i + 1) (i32_id (by omega) (by omega)) (by omega) dL_law_978 ?_
  refine x_aload_n X dL_law_979 rfl (lv_at hl 3 rfl) ?_
  refine x_iload_n X dL_law_980 rfl (lv_at hl 0 rfl) ?_
  refine x_iconst X dL_law_981 ?_
  refine x_iadd X dL_law_982 ?_
  refine x_sld X hX hbl hw.2.2.2 (i + 2) (i32_id (by omega) (by omega)) (by omega) dL_law_983 ?_
  refine x_aload_n X dL_law_984 rfl (lv_at hl 3 rfl) ?_
  refine x_iload_n X dL_law_985 rfl (lv_at hl 0 rfl) ?_
  refine x_iconst X dL_law_986 ?_
  refine x_iadd X dL_law_987 ?_
  refine x_sld X hX hbl hw.2.2.2 (i + 3) (i32_id (by omega) (by omega)) (by omega) dL_law_988 ?_
  refine x_cvi2 X hw2 hw (fun i hi j hj => (hdis j hj i hi).symm) [iV ((xs (i + 1)).toInt), iV ((xs (i + 2)).toInt), iV ((xs (i + 3)).toInt)] [iV r] (c_M_layer l G adM hw2.2.1.1 τ ((xs (i + 1)).toInt) ((xs (i + 2)).toInt) ((xs (i + 3)).toInt) hV) (cwV 3 X.2.2.2.2 gL_law_X8_layer rfl rfl rfl hd_M_layer ⟨Nat.le_of_ble_eq_true rfl, Nat.le_of_ble_eq_true rfl⟩) lm0 cX8 rfl hl.1 rfl (Nat.le_of_ble_eq_true rfl) dL_law_989 ⟨Nat.le_of_ble_eq_true rfl, Nat.le_of_ble_eq_true rfl⟩ (fun r2 τ1 H locs hq hw2 hw => ?_)
  exact x_icmp_eq X hq.1 rfl 1288 dL_law_992 (by decide) (fun _ => kk H locs σ1 τ1 hw hw2 hq.2) (fun z => absurd rfl z)
set_option maxHeartbeats 2000000 in
set_option maxRecDepth 100000 in
theorem lc_repeat {p : Program} {l : Launch} {e : Env} {s : State} {m : MethodId} {below : List Frame} {meth : Method} {c : Code} {Q : State → Prop} {b L : Nat} {xs : Nat → Int32} {G : GT} {adX adM : Nat → Nat} {i : Nat} {H : Heap} {locs : List Loc} {ls : Array Slot} {σ τ : St} (X : CallFix p m c cL_law 4 s #[Value.ref b] wsL_law RL) (hX : va_X b L xs s s.heap) (hbl : b < s.heap.size) (hdis : ∀ i, i < LX.length → ∀ j, j < LM.length → adX i ≠ adM j) (hi : i + 5 ≤ L) (hL : L ≤ 2560) (hl : lv_has ls 4 [(3, iV (i : Nat)), (2, .ref (adM 0)), (1, .ref (adX 0)), (0, .ref b)]) (hw : Wy vwCl G LX adX (fun q => s.heap.size ≤ q) s H locs σ) (hw2 : Wy vwCl G LM adM (fun q => s.heap.size ≤ q) s H locs τ) (hR : Rel σ τ) (kk : ∀ (H : Heap) (locs : List Loc) (σ τ : St), Wy vwCl G LX adX (fun q => s.heap.size ≤ q) s H locs σ → Wy vwCl G LM adM (fun q => s.heap.size ≤ q) s H locs τ → Rel σ τ → W p l e room_1 s m #[Value.ref b] below meth c H locs 94 44590 Q (F0 m 1288 ls [])) : W p l e room_1 s m #[Value.ref b] below meth c H locs 94 44590 Q (F0 m 997 ls []) := by
  refine x_aload_n X dL_law_997 rfl (lv_at hl 2 rfl) ?_
  refine x_cvi2 X hw hw2 hdis [] [] (c_P_repeat l G adX hw.2.1.1 σ (op_repeat hR)) (cwV 0 X.2.2.2.2 gL_law_X7_repeat rfl rfl rfl hd_P_repeat ⟨Nat.le_of_ble_eq_true rfl, Nat.le_of_ble_eq_true rfl⟩) lx0 cX7 rfl hl.1 rfl (Nat.le_of_ble_eq_true rfl) dL_law_998 ⟨Nat.le_of_ble_eq_true rfl, Nat.le_of_ble_eq_true rfl⟩ (fun r σ1 H locs hV hw hw2 => ?_)
  refine x_aload_n X dL_law_1001 rfl (lv_at hl 1 rfl) ?_
  refine x_cvi2 X hw2 hw (fun i hi j hj => (hdis j hj i hi).symm) [] [iV r] (c_M_repeat l G adM hw2.2.1.1 τ hV) (cwV 0 X.2.2.2.2 gL_law_X8_repeat rfl rfl rfl hd_M_repeat ⟨Nat.le_of_ble_eq_true rfl, Nat.le_of_ble_eq_true rfl⟩) lm0 cX8 rfl hl.1 rfl (Nat.le_of_ble_eq_true rfl) dL_law_1002 ⟨Nat.le_of_ble_eq_true rfl, Nat.le_of_ble_eq_true rfl⟩ (fun r2 τ1 H locs hq hw2 hw => ?_)
  exact x_icmp_eq X hq.1 rfl 1288 dL_law_1005 (by decide) (fun _ => kk H locs σ1 τ1 hw hw2 hq.2) (fun z => absurd rfl z)
set_option maxHeartbeats 2000000 in
set_option maxRecDepth 100000 in
theorem lc_motif {p : Program} {l : Launch} {e : Env} {s : State} {m : MethodId} {below : List Frame} {meth : Method} {c : Code} {Q : State → Prop} {b L : Nat} {xs : Nat → Int32} {G : GT} {adX adM : Nat → Nat} {i : Nat} {H : Heap} {locs : List Loc} {ls : Array Slot} {σ τ : St} (X : CallFix p m c cL_law 4 s #[Value.ref b] wsL_law RL) (hX : va_X b L xs s s.heap) (hbl : b < s.heap.size) (hdis : ∀ i, i < LX.length → ∀ j, j < LM.length → adX i ≠ adM j) (hi : i + 5 ≤ L) (hL : L ≤ 2560) (hl : lv_has ls 4 [(3, iV (i : Nat)), (2, .ref (adM 0)), (1, .ref (adX 0)), (0, .ref b)]) (hw : Wy vwCl G LX adX (fun q => s.heap.size ≤ q) s H locs σ) (hw2 : Wy vwCl G LM adM (fun q => s.heap.size ≤ q) s H locs τ) (hR : Rel σ τ) (kk : ∀ (H : Heap) (locs : List Loc) (σ τ : St), Wy vwCl G LX adX (fun q => s.heap.size ≤ q) s H locs σ → Wy vwCl G LM adM (fun q => s.heap.size ≤ q) s H locs τ → Rel σ τ → W p l e room_1 s m #[Value.ref b] below meth c H locs 94 44590 Q (F0 m 1288 ls [])) : W p l e room_1 s m #[Value.ref b] below meth c H locs 94 44590 Q (F0 m 1010 ls []) := by
  refine x_aload_n X dL_law_1010 rfl (lv_at hl 2 rfl) ?_
  refine x_aload_n X dL_law_1011 rfl (lv_at hl 3 rfl) ?_
  refine x_iload_n X dL_law_1012 rfl (lv_at hl 0 rfl) ?_
  refine x_iconst X dL_law_1013 ?_
  refine x_iadd X dL_law_1014 ?_
  refine x_sld X hX hbl hw.2.2.2 (i + 1) (i32_id (by omega) (by omega)) (by omega) dL_law_1015 ?_
  refine x_aload_n X dL_law_1016 rfl (lv_at hl 3 rfl) ?_
  refine x_iload_n X dL_law_1017 rfl (lv_at hl 0 rfl) ?_
  refine x_iconst X dL_law_1018 ?_
  refine x_iadd X dL_law_1019 ?_
  refine x_sld X hX hbl hw.2.2.2 (i + 2) (i32_id (by omega) (by omega)) (by omega) dL_law_1020 ?_
  refine x_aload_n X dL_law_1021 rfl (lv_at hl 3 rfl) ?_
  refine x_iload_n X dL_law_1022 rfl (lv_at hl 0 rfl) ?_
  refine x_iconst X dL_law_1023 ?_
  refine x_iadd X dL_law_1024 ?_
  refine x_sld X hX hbl hw.2.2.2 (i + 3) (i32_id (by omega) (by omega)) (by omega) dL_law_1025 ?_
  refine x_cvi2 X hw hw2 hdis [iV ((xs (i + 1)).toInt), iV ((xs (i + 2)).toInt), iV ((xs (i + 3)).toInt)] [] (c_P_motif l G adX hw.2.1.1 σ ((xs (i + 1)).toInt) ((xs (i + 2)).toInt) ((xs (i + 3)).toInt) (op_motif hR (i32_to _) (i32_to _) (i32_to _))) (cwV 3 X.2.2.2.2 gL_law_X7_motif rfl rfl rfl hd_P_motif ⟨Nat.le_of_ble_eq_true rfl, Nat.le_of_ble_eq_true rfl⟩) lx0 cX7 rfl hl.1 rfl (Nat.le_of_ble_eq_true rfl) dL_law_1026 ⟨Nat.le_of_ble_eq_true rfl, Nat.le_of_ble_eq_true rfl⟩ (fun r σ1 H locs hV hw hw2 => ?_)
  refine x_aload_n X dL_law_1029 rfl (lv_at hl 1 rfl) ?_
  refine x_aload_n X dL_law_1030 rfl (lv_at hl 3 rfl) ?_
  refine x_iload_n X dL_law_1031 rfl (lv_at hl 0 rfl) ?_
  refine x_iconst X dL_law_1032 ?_
  refine x_iadd X dL_law_1033 ?_
  refine x_sld X hX hbl hw.2.2.2 (i + 1) (i32_id (by omega) (by omega)) (by omega) dL_law_1034 ?_
  refine x_aload_n X dL_law_1035 rfl (lv_at hl 3 rfl) ?_
  refine x_iload_n X dL_law_1036 rfl (lv_at hl 0 rfl) ?_
  refine x_iconst X dL_law_1037 ?_
  refine x_iadd X dL_law_1038 ?_
  refine x_sld X hX hbl hw.2.2.2 (i + 2) (i32_id (by omega) (by omega)) (by omega) dL_law_1039 ?_
  refine x_aload_n X dL_law_1040 rfl (lv_at hl 3 rfl) ?_
  refine x_iload_n X dL_law_1041 rfl (lv_at hl 0 rfl) ?_
  refine x_iconst X dL_law_1042 ?_
  refine x_iadd X dL_law_1043 ?_
  refine x_sld X hX hbl hw.2.2.2 (i + 3) (i32_id (by omega) (by omega)) (by omega) dL_law_1044 ?_
  refine x_cvi2 X hw2 hw (fun i hi j hj => (hdis j hj i hi).symm) [iV ((xs (i + 1)).toInt), iV ((xs (i + 2)).toInt), iV ((xs (i + 3)).toInt)] [iV r] (c_M_motif l G adM hw2.2.1.1 τ ((xs (i + 1)).toInt) ((xs (i + 2)).toInt) ((xs (i + 3)).toInt) hV) (cwV 3 X.2.2.2.2 gL_law_X8_motif rfl rfl rfl hd_M_motif ⟨Nat.le_of_ble_eq_true rfl, Nat.le_of_ble_eq_true rfl⟩) lm0 cX8 rfl hl.1 rfl (Nat.le_of_ble_eq_true rfl) dL_law_1045 ⟨Nat.le_of_ble_eq_true rfl, Nat.le_of_ble_eq_true rfl⟩ (fun r2 τ1 H locs hq hw2 hw => ?_)
  exact x_icmp_eq X hq.1 rfl 1288 dL_law_1048 (by decide) (fun _ => kk H locs σ1 τ1 hw hw2 hq.2) (fun z => absurd rfl z)
set_option maxHeartbeats 2000000 in
set_option maxRecDepth 100000 in
theorem lc_sheet {p : Program} {l : Launch} {e : Env} {s : State} {m : MethodId} {below : List Frame} {meth : Method} {c : Code} {Q : State → Prop} {b L : Nat} {xs : Nat → Int32} {G : GT} {adX adM : Nat → Nat} {i : Nat} {H : Heap} {locs : List Loc} {ls : Array Slot} {σ τ : St} (X : CallFix p m c cL_law 4 s #[Value.ref b] wsL_law RL) (hX : va_X b L xs s s.heap) (hbl : b < s.heap.size) (hdis : ∀ i, i < LX.length → ∀ j, j < LM.length → adX i ≠ adM j) (hi : i + 5 ≤ L) (hL : L ≤ 2560) (hl : lv_has ls 4 [(3, iV (i : Nat)), (2, .ref (adM 0)), (1, .ref (adX 0)), (0, .ref b)]) (hw : Wy vwCl G LX adX (fun q => s.heap.size ≤ q) s H locs σ) (hw2 : Wy vwCl G LM adM (fun q => s.heap.size ≤ q) s H locs τ) (hR : Rel σ τ) (kk : ∀ (H : Heap) (locs : List Loc) (σ τ : St), Wy vwCl G LX adX (fun q => s.heap.size ≤ q) s H locs σ → Wy vwCl G LM adM (fun q => s.heap.size ≤ q) s H locs τ → Rel σ τ → W p l e room_1 s m #[Value.ref b] below meth c H locs 94 44590 Q (F0 m 1288 ls [])) : W p l e room_1 s m #[Value.ref b] below meth c H locs 94 44590 Q (F0 m 1053 ls []) := by
  refine x_aload_n X dL_law_1053 rfl (lv_at hl 2 rfl) ?_
  refine x_aload_n X dL_law_1054 rfl (lv_at hl 3 rfl) ?_
  refine x_iload_n X dL_law_1055 rfl (lv_at hl 0 rfl) ?_
  refine x_iconst X dL_law_1056 ?_
  refine x_iadd X dL_law_1057 ?_
  refine x_sld X hX hbl hw.2.2.2 (i + 1) (i32_id (by omega) (by omega)) (by omega) dL_law_1058 ?_
  refine x_aload_n X dL_law_1059 rfl (lv_at hl 3 rfl) ?_
  refine x_iload_n X dL_law_1060 rfl (lv_at hl 0 rfl) ?_
  refine x_iconst X dL_law_1061 ?_
  refine x_iadd X dL_law_1062 ?_
  refine x_sld X hX hbl hw.2.2.2 (i + 2) (i32_id (by omega) (by omega)) (by omega) dL_law_1063 ?_
  refine x_aload_n X dL_law_1064 rfl (lv_at hl 3 rfl) ?_
  refine x_iload_n X dL_law_1065 rfl (lv_at hl 0 rfl) ?_
  refine x_iconst X dL_law_1066 ?_
  refine x_iadd X dL_law_1067 ?_
  refine x_sld X hX hbl hw.2.2.2 (i + 3) (i32_id (by omega) (by omega)) (by omega) dL_law_1068 ?_
  refine x_cvi2 X hw hw2 hdis [iV ((xs (i + 1)).toInt), iV ((xs (i + 2)).toInt), iV ((xs (i + 3)).toInt)] [] (c_P_sheet l G adX hw.2.1.1 σ ((xs (i + 1)).toInt) ((xs (i + 2)).toInt) ((xs (i + 3)).toInt) (op_sheet hR (i32_to _) (i32_to _) (i32_to _))) (cwV 3 X.2.2.2.2 gL_law_X7_sheet rfl rfl rfl hd_P_sheet ⟨Nat.le_of_ble_eq_true rfl, Nat.le_of_ble_eq_true rfl⟩) lx0 cX7 rfl hl.1 rfl (Nat.le_of_ble_eq_true rfl) dL_law_1069 ⟨Nat.le_of_ble_eq_true rfl, Nat.le_of_ble_eq_true rfl⟩ (fun r σ1 H locs hV hw hw2 => ?_)
  refine x_aload_n X dL_law_1072 rfl (lv_at hl 1 rfl) ?_
  refine x_aload_n X dL_law_1073 rfl (lv_at hl 3 rfl) ?_
  refine x_iload_n X dL_law_1074 rfl (lv_at hl 0 rfl) ?_
  refine x_iconst X dL_law_1075 ?_
  refine x_iadd X dL_law_1076 ?_
  refine x_sld X hX hbl hw.2.2.2 (i + 1) (i32_id (by omega) (by omega)) (by omega) dL_law_1077 ?_
  refine x_aload_n X dL_law_1078 rfl (lv_at hl 3 rfl) ?_
  refine x_iload_n X dL_law_1079 rfl (lv_at hl 0 rfl) ?_
  refine x_iconst X dL_law_1080 ?_
  refine x_iadd X dL_law_1081 ?_
  refine x_sld X hX hbl hw.2.2.2 (i + 2) (i32_id (by omega) (by omega)) (by omega) dL_law_1082 ?_
  refine x_aload_n X dL_law_1083 rfl (lv_at hl 3 rfl) ?_
  refine x_iload_n X dL_law_1084 rfl (lv_at hl 0 rfl) ?_
  refine x_iconst X dL_law_1085 ?_
  refine x_iadd X dL_law_1086 ?_
  refine x_sld X hX hbl hw.2.2.2 (i + 3) (i32_id (by omega) (by omega)) (by omega) dL_law_1087 ?_
  refine x_cvi2 X hw2 hw (fun i hi j hj => (hdis j hj i hi).symm) [iV ((xs (i + 1)).toInt), iV ((xs (i + 2)).toInt), iV ((xs (i + 3)).toInt)] [iV r] (c_M_sheet l G adM hw2.2.1.1 τ ((xs (i + 1)).toInt) ((xs (i + 2)).toInt) ((xs (i + 3)).toInt) hV) (cwV 3 X.2.2.2.2 gL_law_X8_sheet rfl rfl rfl hd_M_sheet ⟨Nat.le_of_ble_eq_true rfl, Nat.le_of_ble_eq_true rfl⟩) lm0 cX8 rfl hl.1 rfl (Nat.le_of_ble_eq_true rfl) dL_law_1088 ⟨Nat.le_of_ble_eq_true rfl, Nat.le_of_ble_eq_true rfl⟩ (fun r2 τ1 H locs hq hw2 hw => ?_)
  exact x_icmp_eq X hq.1 rfl 1288 dL_law_1091 (by decide) (fun _ => kk H locs σ1 τ1 hw hw2 hq.2) (fun z => absurd rfl z)
set_option maxHeartbeats 2000000 in
set_option maxRecDepth 100000 in
theorem lc_put {p : Program} {l : Launch} {e : Env} {s : State} {m : MethodId} {below : List Frame} {meth : Method} {c : Code} {Q : State → Prop} {b L : Nat} {xs : Nat → Int32} {G : GT} {adX adM : Nat → Nat} {i : Nat} {H : Heap} {locs : List Loc} {ls : Array Slot} {σ τ : St} (X : CallFix p m c cL_law 4 s #[Value.ref b] wsL_law RL) (hX : va_X b L xs s s.heap) (hbl : b < s.heap.size) (hdis : ∀ i, i < LX.length → ∀ j, j < LM.length → adX i ≠ adM j) (hi : i + 5 ≤ L) (hL : L ≤ 2560) (hl : lv_has ls 4 [(3, iV (i : Nat)), (2, .ref (adM 0)), (1, .ref (adX 0)), (0, .ref b)]) (hw : Wy vwCl G LX adX (fun q => s.heap.size ≤ q) s H locs σ) (hw2 : Wy vwCl G LM adM (fun q => s.heap.size ≤ q) s H locs τ) (hR : Rel σ τ) (kk : ∀ (H : Heap) (locs : List Loc) (σ τ : St), Wy vwCl G LX adX (fun q => s.heap.size ≤ q) s H locs σ → Wy vwCl G LM adM (fun q => s.heap.size ≤ q) s H locs τ → Rel σ τ → W p l e room_1 s m #[Value.ref b] below meth c H locs 94 44590 Q (F0 m 1288 ls [])) : W p l e room_1 s m #[Value.ref b] below meth c H locs 94 44590 Q (F0 m 1096 ls []) := by
  refine x_aload_n X dL_law_1096 rfl (lv_at hl 2 rfl) ?_
  refine x_aload_n X dL_law_1097 rfl (lv_at hl 3 rfl) ?_
  refine x_iload_n X dL_law_1098 rfl (lv_at hl 0 rfl) ?_
  refine x_iconst X dL_law_1099 ?_
  refine x_iadd X dL_law_1100 ?_
  refine x_sld X hX hbl hw.2.2.2 (i + 1) (i32_id (by omega) (by omega)) (by omega) dL_law_1101 ?_
  refine x_aload_n X dL_law_1102 rfl (lv_at hl 3 rfl) ?_
  refine x_iload_n X dL_law_1103 rfl (lv_at hl 0 rfl) ?_
  refine x_iconst X dL_law_1104 ?_
  refine x_iadd X dL_law_1105 ?_
  refine x_sld X hX hbl hw.2.2.2 (i + 2) (i32_id (by omega) (by omega)) (by omega) dL_law_1106 ?_
  refine x_aload_n X dL_law_1107 rfl (lv_at hl 3 rfl) ?_
  refine x_iload_n X dL_law_1108 rfl (lv_at hl 0 rfl) ?_
  refine x_iconst X dL_law_1109 ?_
  refine x_iadd X dL_law_1110 ?_
  refine x_sld X hX hbl hw.2.2.2 (i + 3) (i32_id (by omega) (by omega)) (by omega) dL_law_1111 ?_
  refine x_i2l X dL_law_1112 ?_
  refine x_bipush X dL_law_1113 (by decide) ?_
  refine x_lshl X dL_law_1115 ?_
  refine x_aload_n X dL_law_1116 rfl (lv_at hl 3 rfl) ?_
  refine x_iload_n X dL_law_1117 rfl (lv_at hl 0 rfl) ?_
  refine x_iconst X dL_law_1118 ?_
  refine x_iadd X dL_law_1119 ?_
  refine x_sld X hX hbl hw.2.2.2 (i + 4) (i32_id (by omega) (by omega)) (by omega) dL_law_1120 ?_
  refine x_i2l X dL_law_1121 ?_
  refine x_ldc2 X 4294967295 nL_ld66 (by decide +kernel) dL_law_1122 ?_
  refine x_land X dL_law_1125 ?_
  refine x_lor X dL_law_1126 ?_
  refine x_cvi2 X hw hw2 hdis [iV ((xs (i + 1)).toInt), iV ((xs (i + 2)).toInt), lV (lro (lsh (i32 (xs (i + 3)).toInt) 32) (lan (i32 (xs (i + 4)).toInt) 4294967295))] [] (c_P_put l G adX hw.2.1.1 σ ((xs (i + 1)).toInt) ((xs (i + 2)).toInt) (lro (lsh (i32 (xs (i + 3)).toInt) 32) (lan (i32 (xs (i + 4)).toInt) 4294967295)) (op_put hR (i32_to _) (i32_to _) (i64_lro _ _))) (cwV 3 X.2.2.2.2 gL_law_X7_put rfl rfl rfl hd_P_put ⟨Nat.le_of_ble_eq_true rfl, Nat.le_of_ble_eq_true rfl⟩) lx0 cX7 rfl hl.1 rfl (Nat.le_of_ble_eq_true rfl) dL_law_1127 ⟨Nat.le_of_ble_eq_true rfl, Nat.le_of_ble_eq_true rfl⟩ (fun r σ1 H locs hV hw hw2 => ?_)
  refine x_aload_n X dL_law_1130 rfl (lv_at hl 1 rfl) ?_
  refine x_aload_n X dL_law_1131 rfl (lv_at hl 3 rfl) ?_
  refine x_iload_n X dL_law_1132 rfl (lv_at hl 0 rfl) ?_
  refine x_iconst X dL_law_1133 ?_
  refine x_iadd X dL_law_1134 ?_
  refine x_sld X hX hbl hw.2.2.2 (i + 1) (i32_id (by omega) (by omega)) (by omega) dL_law_1135 ?_
  refine x_aload_n X dL_law_1136 rfl (lv_at hl 3 rfl) ?_
  refine x_iload_n X dL_law_1137 rfl (lv_at hl 0 rfl) ?_
  refine x_iconst X dL_law_1138 ?_
  refine x_iadd X dL_law_1139 ?_
  refine x_sld X hX hbl hw.2.2.2 (i + 2) (i32_id (by omega) (by omega)) (by omega) dL_law_1140 ?_
  refine x_aload_n X dL_law_1141 rfl (lv_at hl 3 rfl) ?_
  refine x_iload_n X dL_law_1142 rfl (lv_at hl 0 rfl) ?_
  refine x_iconst X dL_law_1143 ?_
  refine x_iadd X dL_law_1144 ?_
  refine x_sld X hX hbl hw.2.2.2 (i + 3) (i32_id (by omega) (by omega)) (by omega) dL_law_1145 ?_
  refine x_i2l X dL_law_1146 ?_
  refine x_bipush X dL_law_1147 (by decide) ?_
  refine x_lshl X dL_law_1149 ?_
  refine x_aload_n X dL_law_1150 rfl (lv_at hl 3 rfl) ?_
  refine x_iload_n X dL_law_1151 rfl (lv_at hl 0 rfl) ?_
  refine x_iconst X dL_law_1152 ?_
  refine x_iadd X dL_law_1153 ?_
  refine x_sld X hX hbl hw.2.2.2 (i + 4) (i32_id (by omega) (by omega)) (by omega) dL_law_1154 ?_
  refine x_i2l X dL_law_1155 ?_
  refine x_ldc2 X 4294967295 nL_ld66 (by decide +kernel) dL_law_1156 ?_
  refine x_land X dL_law_1159 ?_
  refine x_lor X dL_law_1160 ?_
  refine x_cvi2 X hw2 hw (fun i hi j hj => (hdis j hj i hi).symm) [iV ((xs (i + 1)).toInt), iV ((xs (i + 2)).toInt), lV (lro (lsh (i32 (xs (i + 3)).toInt) 32) (lan (i32 (xs (i + 4)).toInt) 4294967295))] [iV r] (c_M_put l G adM hw2.2.1.1 τ ((xs (i + 1)).toInt) ((xs (i + 2)).toInt) (lro (lsh (i32 (xs (i + 3)).toInt) 32) (lan (i32 (xs (i + 4)).toInt) 4294967295)) hV) (cwV 3 X.2.2.2.2 gL_law_X8_put rfl rfl rfl hd_M_put ⟨Nat.le_of_ble_eq_true rfl, Nat.le_of_ble_eq_true rfl⟩) lm0 cX8 rfl hl.1 rfl (Nat.le_of_ble_eq_true rfl) dL_law_1161 ⟨Nat.le_of_ble_eq_true rfl, Nat.le_of_ble_eq_true rfl⟩ (fun r2 τ1 H locs hq hw2 hw => ?_)
  exact x_icmp_eq X hq.1 rfl 1288 dL_law_1164 (by decide) (fun _ => kk H locs σ1 τ1 hw hw2 hq.2) (fun z => absurd rfl z)
set_option maxHeartbeats 2000000 in
set_option maxRecDepth 100000 in
theorem lc_number {p : Program} {l : Launch} {e : Env} {s : State} {m : MethodId} {below : List Frame} {meth : Method} {c : Code} {Q : State → Prop} {b L : Nat} {xs : Nat → Int32} {G : GT} {adX adM : Nat → Nat} {i : Nat} {H : Heap} {locs : List Loc} {ls : Array Slot} {σ τ : St} (X : CallFix p m c cL_law 4 s #[Value.ref b] wsL_law RL) (hX : va_X b L xs s s.heap) (hbl : b < s.heap.size) (hdis : ∀ i, i < LX.length → ∀ j, j < LM.length → adX i ≠ adM j) (hi : i + 5 ≤ L) (hL : L ≤ 2560) (hl : lv_has ls 4 [(3, iV (i : Nat)), (2, .ref (adM 0)), (1, .ref (adX 0)), (0, .ref b)]) (hw : Wy vwCl G LX adX (fun q => s.heap.size ≤ q) s H locs σ) (hw2 : Wy vwCl G LM adM (fun q => s.heap.size ≤ q) s H locs τ) (hR : Rel σ τ) (kk : ∀ (H : Heap) (locs : List Loc) (σ τ : St), Wy vwCl G LX adX (fun q => s.heap.size ≤ q) s H locs σ → Wy vwCl G LM adM (fun q => s.heap.size ≤ q) s H locs τ → Rel σ τ → W p l e room_1 s m #[Value.ref b] below meth c H locs 94 44590 Q (F0 m 1288 ls [])) : W p l e room_1 s m #[Value.ref b] below meth c H locs 94 44590 Q (F0 m 1169 ls []) := by
  refine x_aload_n X dL_law_1169 rfl (lv_at hl 2 rfl) ?_
  refine x_aload_n X dL_law_1170 rfl (lv_at hl 3 rfl) ?_
  refine x_iload_n X dL_law_1171 rfl (lv_at hl 0 rfl) ?_
  refine x_iconst X dL_law_1172 ?_
  refine x_iadd X dL_law_1173 ?_
  refine x_sld X hX hbl hw.2.2.2 (i + 1) (i32_id (by omega) (by omega)) (by omega) dL_law_1174 ?_
  refine x_aload_n X dL_law_1175 rfl (lv_at hl 3 rfl) ?_
  refine x_iload_n X dL_law_1176 rfl (lv_at hl 0 rfl) ?_
  refine x_iconst X dL_law_1177 ?_
  refine x_iadd X dL_law_1178 ?_
  refine x_sld X hX hbl hw.2.2.2 (i + 2) (i32_id (by omega) (by omega)) (by omega) dL_law_1179 ?_
  refine x_cvl2 X hw hw2 hdis [iV ((xs (i + 1)).toInt), iV ((xs (i + 2)).toInt)] [] (c_P_number l G adX hw.2.1.1 σ ((xs (i + 1)).toInt) ((xs (i + 2)).toInt) (op_number hR (i32_to _) (i32_to _))) (cwV 2 X.2.2.2.2 gL_law_X7_number rfl rfl rfl hd_P_number ⟨Nat.le_of_ble_eq_true rfl, Nat.le_of_ble_eq_true rfl⟩) lx0 cX7 rfl hl.1 rfl (Nat.le_of_ble_eq_true rfl) dL_law_1180 ⟨Nat.le_of_ble_eq_true rfl, Nat.le_of_ble_eq_true rfl⟩ (fun r σ1 H locs hV hw hw2 => ?_)
  refine x_aload_n X dL_law_1183 rfl (lv_at hl 1 rfl) ?_
  refine x_aload_n X dL_law_1184 rfl (lv_at hl 3 rfl) ?_
  refine x_iload_n X dL_law_1185 rfl (lv_at hl 0 rfl) ?_
  refine x_iconst X dL_law_1186 ?_
  refine x_iadd X dL_law_1187 ?_
  refine x_sld X hX hbl hw.2.2.2 (i + 1) (i32_id (by omega) (by omega)) (by omega) dL_law_1188 ?_
  refine x_aload_n X dL_law_1189 rfl (lv_at hl 3 rfl) ?_
  refine x_iload_n X dL_law_1190 rfl (lv_at hl 0 rfl) ?_
  refine x_iconst X dL_law_1191 ?_
  refine x_iadd X dL_law_1192 ?_
  refine x_sld X hX hbl hw.2.2.2 (i + 2) (i32_id (by omega) (by omega)) (by omega) dL_law_1193 ?_
  refine x_cvl2 X hw2 hw (fun i hi j hj => (hdis j hj i hi).symm) [iV ((xs (i + 1)).toInt), iV ((xs (i + 2)).toInt)] [lV r] (c_M_number l G adM hw2.2.1.1 τ ((xs (i + 1)).toInt) ((xs (i + 2)).toInt) hV) (cwV 2 X.2.2.2.2 gL_law_X8_number rfl rfl rfl hd_M_number ⟨Nat.le_of_ble_eq_true rfl, Nat.le_of_ble_eq_true rfl⟩) lm0 cX8 rfl hl.1 rfl (Nat.le_of_ble_eq_true rfl) dL_law_1194 ⟨Nat.le_of_ble_eq_true rfl, Nat.le_of_ble_eq_true rfl⟩ (fun r2 τ1 H locs hq hw2 hw => ?_)
  exact x_lcmp_eq X hq.1 rfl 1288 dL_law_1197 dL_law_1198 (by decide) (fun _ => kk H locs σ1 τ1 hw hw2 hq.2) (fun z => absurd rfl z)
set_option maxHeartbeats 2000000 in
set_option maxRecDepth 100000 in
theorem lc_image {p : Program} {l : Launch} {e : Env} {s : State} {m : MethodId} {below : List Frame} {meth : Method} {c : Code} {Q : State → Prop} {b L : Nat} {xs : Nat → Int32} {G : GT} {adX adM : Nat → Nat} {i : Nat} {H : Heap} {locs : List Loc} {ls : Array Slot} {σ τ : St} (X : CallFix p m c cL_law 4 s #[Value.ref b] wsL_law RL) (hX : va_X b L xs s s.heap) (hbl : b < s.heap.size) (hdis : ∀ i, i < LX.length → ∀ j, j < LM.length → adX i ≠ adM j) (hi : i + 5 ≤ L) (hL : L ≤ 2560) (hl : lv_has ls 4 [(3, iV (i : Nat)), (2, .ref (adM 0)), (1, .ref (adX 0)), (0, .ref b)]) (hw : Wy vwCl G LX adX (fun q => s.heap.size ≤ q) s H locs σ) (hw2 : Wy vwCl G LM adM (fun q => s.heap.size ≤ q) s H locs τ) (hR : Rel σ τ) (kk : ∀ (H : Heap) (locs : List Loc) (σ τ : St), Wy vwCl G LX adX (fun q => s.heap.size ≤ q) s H locs σ → Wy vwCl G LM adM (fun q => s.heap.size ≤ q) s H locs τ → Rel σ τ → W p l e room_1 s m #[Value.ref b] below meth c H locs 94 44590 Q (F0 m 1288 ls [])) : W p l e room_1 s m #[Value.ref b] below meth c H locs 94 44590 Q (F0 m 1203 ls []) := by
  refine x_aload_n X dL_law_1203 rfl (lv_at hl 2 rfl) ?_
  refine x_cvi2 X hw hw2 hdis [] [] (c_P_image l G adX hw.2.1.1 σ (op_image hR)) (cwV 0 X.2.2.2.2 gL_law_X7_image rfl rfl rfl hd_P_image ⟨Nat.le_of_ble_eq_true rfl, Nat.le_of_ble_eq_true rfl⟩) lx0 cX7 rfl hl.1 rfl (Nat.le_of_ble_eq_true rfl) dL_law_1204 ⟨Nat.le_of_ble_eq_true rfl, Nat.le_of_ble_eq_true rfl⟩ (fun r σ1 H locs hV hw hw2 => ?_)
  refine x_aload_n X dL_law_1207 rfl (lv_at hl 1 rfl) ?_
  refine x_cvi2 X hw2 hw (fun i hi j hj => (hdis j hj i hi).symm) [] [iV r] (c_M_image l G adM hw2.2.1.1 τ hV) (cwV 0 X.2.2.2.2 gL_law_X8_image rfl rfl rfl hd_M_image ⟨Nat.le_of_ble_eq_true rfl, Nat.le_of_ble_eq_true rfl⟩) lm0 cX8 rfl hl.1 rfl (Nat.le_of_ble_eq_true rfl) dL_law_1208 ⟨Nat.le_of_ble_eq_true rfl, Nat.le_of_ble_eq_true rfl⟩ (fun r2 τ1 H locs hq hw2 hw => ?_)
  exact x_icmp_eq X hq.1 rfl 1288 dL_law_1211 (by decide) (fun _ => kk H locs σ1 τ1 hw hw2 hq.2) (fun z => absurd rfl z)
set_option maxHeartbeats 2000000 in
set_option maxRecDepth 100000 in
theorem lc_restore {p : Program} {l : Launch} {e : Env} {s : State} {m : MethodId} {below : List Frame} {meth : Method} {c : Code} {Q : State → Prop} {b L : Nat} {xs : Nat → Int32} {G : GT} {adX adM : Nat → Nat} {i : Nat} {H : Heap} {locs : List Loc} {ls : Array Slot} {σ τ : St} (X : CallFix p m c cL_law 4 s #[Value.ref b] wsL_law RL) (hX : va_X b L xs s s.heap) (hbl : b < s.heap.size) (hdis : ∀ i, i < LX.length → ∀ j, j < LM.length → adX i ≠ adM j) (hi : i + 5 ≤ L) (hL : L ≤ 2560) (hl : lv_has ls 4 [(3, iV (i : Nat)), (2, .ref (adM 0)), (1, .ref (adX 0)), (0, .ref b)]) (hw : Wy vwCl G LX adX (fun q => s.heap.size ≤ q) s H locs σ) (hw2 : Wy vwCl G LM adM (fun q => s.heap.size ≤ q) s H locs τ) (hR : Rel σ τ) (kk : ∀ (H : Heap) (locs : List Loc) (σ τ : St), Wy vwCl G LX adX (fun q => s.heap.size ≤ q) s H locs σ → Wy vwCl G LM adM (fun q => s.heap.size ≤ q) s H locs τ → Rel σ τ → W p l e room_1 s m #[Value.ref b] below meth c H locs 94 44590 Q (F0 m 1288 ls [])) : W p l e room_1 s m #[Value.ref b] below meth c H locs 94 44590 Q (F0 m 1216 ls []) := by
  refine x_aload_n X dL_law_1216 rfl (lv_at hl 2 rfl) ?_
  refine x_cvi2 X hw hw2 hdis [] [] (c_P_restore l G adX hw.2.1.1 σ (op_restore hR)) (cwV 0 X.2.2.2.2 gL_law_X7_restore rfl rfl rfl hd_P_restore ⟨Nat.le_of_ble_eq_true rfl, Nat.le_of_ble_eq_true rfl⟩) lx0 cX7 rfl hl.1 rfl (Nat.le_of_ble_eq_true rfl) dL_law_1217 ⟨Nat.le_of_ble_eq_true rfl, Nat.le_of_ble_eq_true rfl⟩ (fun r σ1 H locs hV hw hw2 => ?_)
  refine x_aload_n X dL_law_1220 rfl (lv_at hl 1 rfl) ?_
  refine x_cvi2 X hw2 hw (fun i hi j hj => (hdis j hj i hi).symm) [] [iV r] (c_M_restore l G adM hw2.2.1.1 τ hV) (cwV 0 X.2.2.2.2 gL_law_X8_restore rfl rfl rfl hd_M_restore ⟨Nat.le_of_ble_eq_true rfl, Nat.le_of_ble_eq_true rfl⟩) lm0 cX8 rfl hl.1 rfl (Nat.le_of_ble_eq_true rfl) dL_law_1221 ⟨Nat.le_of_ble_eq_true rfl, Nat.le_of_ble_eq_true rfl⟩ (fun r2 τ1 H locs hq hw2 hw => ?_)
  exact x_icmp_eq X hq.1 rfl 1288 dL_law_1224 (by decide) (fun _ => kk H locs σ1 τ1 hw hw2 hq.2) (fun z => absurd rfl z)
set_option maxHeartbeats 2000000 in
set_option maxRecDepth 100000 in
theorem lc_alike {p : Program} {l : Launch} {e : Env} {s : State} {m : MethodId} {below : List Frame} {meth : Method} {c : Code} {Q : State → Prop} {b L : Nat} {xs : Nat → Int32} {G : GT} {adX adM : Nat → Nat} {i : Nat} {H : Heap} {locs : List Loc} {ls : Array Slot} {σ τ : St} (X : CallFix p m c cL_law 4 s #[Value.ref b] wsL_law RL) (hX : va_X b L xs s s.heap) (hbl : b < s.heap.size) (hdis : ∀ i, i < LX.length → ∀ j, j < LM.length → adX i ≠ adM j) (hi : i + 5 ≤ L) (hL : L ≤ 2560) (hl : lv_has ls 4 [(3, iV (i : Nat)), (2, .ref (adM 0)), (1, .ref (adX 0)), (0, .ref b)]) (hw : Wy vwCl G LX adX (fun q => s.heap.size ≤ q) s H locs σ) (hw2 : Wy vwCl G LM adM (fun q => s.heap.size ≤ q) s H locs τ) (hR : Rel σ τ) (kk : ∀ (H : Heap) (locs : List Loc) (σ τ : St), Wy vwCl G LX adX (fun q => s.heap.size ≤ q) s H locs σ → Wy vwCl G LM adM (fun q => s.heap.size ≤ q) s H locs τ → Rel σ τ → W p l e room_1 s m #[Value.ref b] below meth c H locs 94 44590 Q (F0 m 1288 ls [])) : W p l e room_1 s m #[Value.ref b] below meth c H locs 94 44590 Q (F0 m 1229 ls []) := by
  refine x_aload_n X dL_law_1229 rfl (lv_at hl 2 rfl) ?_
  refine x_cvi2 X hw hw2 hdis [] [] (c_P_alike l G adX hw.2.1.1 σ (op_alike hR)) (cwV 0 X.2.2.2.2 gL_law_X7_alike rfl rfl rfl hd_P_alike ⟨Nat.le_of_ble_eq_true rfl, Nat.le_of_ble_eq_true rfl⟩) lx0 cX7 rfl hl.1 rfl (Nat.le_of_ble_eq_true rfl) dL_law_1230 ⟨Nat.le_of_ble_eq_true rfl, Nat.le_of_ble_eq_true rfl⟩ (fun r σ1 H locs hV hw hw2 => ?_)
  refine x_aload_n X dL_law_1233 rfl (lv_at hl 1 rfl) ?_
  refine x_cvi2 X hw2 hw (fun i hi j hj => (hdis j hj i hi).symm) [] [iV r] (c_M_alike l G adM hw2.2.1.1 τ hV) (cwV 0 X.2.2.2.2 gL_law_X8_alike rfl rfl rfl hd_M_alike ⟨Nat.le_of_ble_eq_true rfl, Nat.le_of_ble_eq_true rfl⟩) lm0 cX8 rfl hl.1 rfl (Nat.le_of_ble_eq_true rfl) dL_law_1234 ⟨Nat.le_of_ble_eq_true rfl, Nat.le_of_ble_eq_true rfl⟩ (fun r2 τ1 H locs hq hw2 hw => ?_)
  exact x_icmp_eq X hq.1 rfl 1288 dL_law_1237 (by decide) (fun _ => kk H locs σ1 τ1 hw hw2 hq.2) (fun z => absurd rfl z)
set_option maxHeartbeats 2000000 in
set_option maxRecDepth 100000 in
theorem lc_count {p : Program} {l : Launch} {e : Env} {s : State} {m : MethodId} {below : List Frame} {meth : Method} {c : Code} {Q : State → Prop} {b L : Nat} {xs : Nat → Int32} {G : GT} {adX adM : Nat → Nat} {i : Nat} {H : Heap} {locs : List Loc} {ls : Array Slot} {σ τ : St} (X : CallFix p m c cL_law 4 s #[Value.ref b] wsL_law RL) (hX : va_X b L xs s s.heap) (hbl : b < s.heap.size) (hdis : ∀ i, i < LX.length → ∀ j, j < LM.length → adX i ≠ adM j) (hi : i + 5 ≤ L) (hL : L ≤ 2560) (hl : lv_has ls 4 [(3, iV (i : Nat)), (2, .ref (adM 0)), (1, .ref (adX 0)), (0, .ref b)]) (hw : Wy vwCl G LX adX (fun q => s.heap.size ≤ q) s H locs σ) (hw2 : Wy vwCl G LM adM (fun q => s.heap.size ≤ q) s H locs τ) (hR : Rel σ τ) (kk : ∀ (H : Heap) (locs : List Loc) (σ τ : St), Wy vwCl G LX adX (fun q => s.heap.size ≤ q) s H locs σ → Wy vwCl G LM adM (fun q => s.heap.size ≤ q) s H locs τ → Rel σ τ → W p l e room_1 s m #[Value.ref b] below meth c H locs 94 44590 Q (F0 m 1288 ls [])) : W p l e room_1 s m #[Value.ref b] below meth c H locs 94 44590 Q (F0 m 1242 ls []) := by
  refine x_aload_n X dL_law_1242 rfl (lv_at hl 2 rfl) ?_
  refine x_aload_n X dL_law_1243 rfl (lv_at hl 3 rfl) ?_
  refine x_iload_n X dL_law_1244 rfl (lv_at hl 0 rfl) ?_
  refine x_iconst X dL_law_1245 ?_
  refine x_iadd X dL_law_1246 ?_
  refine x_sld X hX hbl hw.2.2.2 (i + 1) (i32_id (by omega) (by omega)) (by omega) dL_law_1247 ?_
  refine x_cvi2 X hw hw2 hdis [iV ((xs (i + 1)).toInt)] [] (c_P_count l G adX hw.2.1.1 σ ((xs (i + 1)).toInt) (op_count hR (i32_to _))) (cwV 1 X.2.2.2.2 gL_law_X7_count rfl rfl rfl hd_P_count ⟨Nat.le_of_ble_eq_true rfl, Nat.le_of_ble_eq_true rfl⟩) lx0 cX7 rfl hl.1 rfl (Nat.le_of_ble_eq_true rfl) dL_law_1248 ⟨Nat.le_of_ble_eq_true rfl, Nat.le_of_ble_eq_true rfl⟩ (fun r σ1 H locs hV hw hw2 => ?_)
  refine x_aload_n X dL_law_1251 rfl (lv_at hl 1 rfl) ?_
  refine x_aload_n X dL_law_1252 rfl (lv_at hl 3 rfl) ?_
  refine x_iload_n X dL_law_1253 rfl (lv_at hl 0 rfl) ?_
  refine x_iconst X dL_law_1254 ?_
  refine x_iadd X dL_law_1255 ?_
  refine x_sld X hX hbl hw.2.2.2 (i + 1) (i32_id (by omega) (by omega)) (by omega) dL_law_1256 ?_
  refine x_cvi2 X hw2 hw (fun i hi j hj => (hdis j hj i hi).symm) [iV ((xs (i + 1)).toInt)] [iV r] (c_M_count l G adM hw2.2.1.1 τ ((xs (i + 1)).toInt) hV) (cwV 1 X.2.2.2.2 gL_law_X8_count rfl rfl rfl hd_M_count ⟨Nat.le_of_ble_eq_true rfl, Nat.le_of_ble_eq_true rfl⟩) lm0 cX8 rfl hl.1 rfl (Nat.le_of_ble_eq_true rfl) dL_law_1257 ⟨Nat.le_of_ble_eq_true rfl, Nat.le_of_ble_eq_true rfl⟩ (fun r2 τ1 H locs hq hw2 hw => ?_)
  exact x_icmp_eq X hq.1 rfl 1288 dL_law_1260 (by decide) (fun _ => kk H locs σ1 τ1 hw hw2 hq.2) (fun z => absurd rfl z)
set_option maxHeartbeats 2000000 in
set_option maxRecDepth 100000 in
theorem lc_told {p : Program} {l : Launch} {e : Env} {s : State} {m : MethodId} {below : List Frame} {meth : Method} {c : Code} {Q : State → Prop} {b L : Nat} {xs : Nat → Int32} {G : GT} {adX adM : Nat → Nat} {i : Nat} {H : Heap} {locs : List Loc} {ls : Array Slot} {σ τ : St} (X : CallFix p m c cL_law 4 s #[Value.ref b] wsL_law RL) (hX : va_X b L xs s s.heap) (hbl : b < s.heap.size) (hdis : ∀ i, i < LX.length → ∀ j, j < LM.length → adX i ≠ adM j) (hi : i + 5 ≤ L) (hL : L ≤ 2560) (hl : lv_has ls 4 [(3, iV (i : Nat)), (2, .ref (adM 0)), (1, .ref (adX 0)), (0, .ref b)]) (hw : Wy vwCl G LX adX (fun q => s.heap.size ≤ q) s H locs σ) (hw2 : Wy vwCl G LM adM (fun q => s.heap.size ≤ q) s H locs τ) (hR : Rel σ τ) (kk : ∀ (H : Heap) (locs : List Loc) (σ τ : St), Wy vwCl G LX adX (fun q => s.heap.size ≤ q) s H locs σ → Wy vwCl G LM adM (fun q => s.heap.size ≤ q) s H locs τ → Rel σ τ → W p l e room_1 s m #[Value.ref b] below meth c H locs 94 44590 Q (F0 m 1288 ls [])) : W p l e room_1 s m #[Value.ref b] below meth c H locs 94 44590 Q (F0 m 1265 ls []) := by
  refine x_aload_n X dL_law_1265 rfl (lv_at hl 2 rfl) ?_
  refine x_aload_n X dL_law_1266 rfl (lv_at hl 3 rfl) ?_
  refine x_iload_n X dL_law_1267 rfl (lv_at hl 0 rfl) ?_
  refine x_iconst X dL_law_1268 ?_
  refine x_iadd X dL_law_1269 ?_
  refine x_sld X hX hbl hw.2.2.2 (i + 1) (i32_id (by omega) (by omega)) (by omega) dL_law_1270 ?_
  refine x_cvi2 X hw hw2 hdis [iV ((xs (i + 1)).toInt)] [] (c_P_told l G adX hw.2.1.1 σ ((xs (i + 1)).toInt) (op_told hR (i32_to _))) (cwV 1 X.2.2.2.2 gL_law_X7_told rfl rfl rfl hd_P_told ⟨Nat.le_of_ble_eq_true rfl, Nat.le_of_ble_eq_true rfl⟩) lx0 cX7 rfl hl.1 rfl (Nat.le_of_ble_eq_true rfl) dL_law_1271 ⟨Nat.le_of_ble_eq_true rfl, Nat.le_of_ble_eq_true rfl⟩ (fun r σ1 H locs hV hw hw2 => ?_)
  refine x_aload_n X dL_law_1274 rfl (lv_at hl 1 rfl) ?_
  refine x_aload_n X dL_law_1275 rfl (lv_at hl 3 rfl) ?_
  refine x_iload_n X dL_law_1276 rfl (lv_at hl 0 rfl) ?_
  refine x_iconst X dL_law_1277 ?_
  refine x_iadd X dL_law_1278 ?_
  refine x_sld X hX hbl hw.2.2.2 (i + 1) (i32_id (by omega) (by omega)) (by omega) dL_law_1279 ?_
  refine x_cvi2 X hw2 hw (fun i hi j hj => (hdis j hj i hi).symm) [iV ((xs (i + 1)).toInt)] [iV r] (c_M_told l G adM hw2.2.1.1 τ ((xs (i + 1)).toInt) hV) (cwV 1 X.2.2.2.2 gL_law_X8_told rfl rfl rfl hd_M_told ⟨Nat.le_of_ble_eq_true rfl, Nat.le_of_ble_eq_true rfl⟩) lm0 cX8 rfl hl.1 rfl (Nat.le_of_ble_eq_true rfl) dL_law_1280 ⟨Nat.le_of_ble_eq_true rfl, Nat.le_of_ble_eq_true rfl⟩ (fun r2 τ1 H locs hq hw2 hw => ?_)
  exact x_icmp_eq X hq.1 rfl 1288 dL_law_1283 (by decide) (fun _ => kk H locs σ1 τ1 hw hw2 hq.2) (fun z => absurd rfl z)
