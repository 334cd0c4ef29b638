-- THE LAW: its cases
set_option maxHeartbeats 2000000 in
set_option maxRecDepth 100000 in
theorem lc_rank {p : Program} {l : Launch} {e : Env} {s : State} {m : MethodId} {below : List Frame} {meth : Method} {c : Code} {Q : State → Prop} {b L : Nat} {xs : Nat → Int32} {G : GT} {adX adM : Nat → Nat} {i : Nat} {H : Heap} {locs : List Loc} {ls : Array Slot} {σ τ : St} (X : CallFix p m c cL_law 4 s #[Value.ref b] wsL_law RL) (hX : va_X b L xs s s.heap) (hbl : b < s.heap.size) (hdis : ∀ i, i < LX.length → ∀ j, j < LM.length → adX i ≠ adM j) (hi : i + 5 ≤ L) (hL : L ≤ 2560) (hl : lv_has ls 4 [(3, iV (i : Nat)), (2, .ref (adM 0)), (1, .ref (adX 0)), (0, .ref b)]) (hw : Wy vwCl G LX adX (fun q => s.heap.size ≤ q) s H locs σ) (hw2 : Wy vwCl G LM adM (fun q => s.heap.size ≤ q) s H locs τ) (hR : Rel σ τ) (kk : ∀ (H : Heap) (locs : List Loc) (σ τ : St), Wy vwCl G LX adX (fun q => s.heap.size ≤ q) s H locs σ → Wy vwCl G LM adM (fun q => s.heap.size ≤ q) s H locs τ → Rel σ τ → W p l e room_1 s m #[Value.ref b] below meth c H locs 94 44590 Q (F0 m 1288 ls [])) : W p l e room_1 s m #[Value.ref b] below meth c H locs 94 44590 Q (F0 m 590 ls []) := by
  refine x_aload_n X dL_law_590 rfl (lv_at hl 2 rfl) ?_
  refine x_aload_n X dL_law_591 rfl (lv_at hl 3 rfl) ?_
  refine x_iload_n X dL_law_592 rfl (lv_at hl 0 rfl) ?_
  refine x_iconst X dL_law_593 ?_
  refine x_iadd X dL_law_594 ?_
  refine x_sld X hX hbl hw.2.2.2 (i + 1) (i32_id (by omega) (by omega)) (by omega) dL_law_595 ?_
  refine x_cvl2 X hw hw2 hdis [iV ((xs (i + 1)).toInt)] [] (c_P_rank l G adX hw.2.1.1 σ ((xs (i + 1)).toInt) (op_rank hR (i32_to _))) (cwV 1 X.2.2.2.2 gL_law_X7_rank rfl rfl rfl hd_P_rank ⟨Nat.le_of_ble_eq_true rfl, Nat.le_of_ble_eq_true rfl⟩) lx0 cX7 rfl hl.1 rfl (Nat.le_of_ble_eq_true rfl) dL_law_596 ⟨Nat.le_of_ble_eq_true rfl, Nat.le_of_ble_eq_true rfl⟩ (fun r σ1 H locs hV hw hw2 => ?_)
  refine x_aload_n X dL_law_599 rfl (lv_at hl 1 rfl) ?_
  refine x_aload_n X dL_law_600 rfl (lv_at hl 3 rfl) ?_
  refine x_iload_n X dL_law_601 rfl (lv_at hl 0 rfl) ?_
  refine x_iconst X dL_law_602 ?_
  refine x_iadd X dL_law_603 ?_
  refine x_sld X hX hbl hw.2.2.2 (i + 1) (i32_id (by omega) (by omega)) (by omega) dL_law_604 ?_
  refine x_cvl2 X hw2 hw (fun i hi j hj => (hdis j hj i hi).symm) [iV ((xs (i + 1)).toInt)] [lV r] (c_M_rank l G adM hw2.2.1.1 τ ((xs (i + 1)).toInt) hV) (cwV 1 X.2.2.2.2 gL_law_X8_rank rfl rfl rfl hd_M_rank ⟨Nat.le_of_ble_eq_true rfl, Nat.le_of_ble_eq_true rfl⟩) lm0 cX8 rfl hl.1 rfl (Nat.le_of_ble_eq_true rfl) dL_law_605 ⟨Nat.le_of_ble_eq_true rfl, Nat.le_of_ble_eq_true rfl⟩ (fun r2 τ1 H locs hq hw2 hw => ?_)
  exact x_lcmp_eq X hq.1 rfl 1288 dL_law_608 dL_law_609 (by decide) (fun _ => kk H locs σ1 τ1 hw hw2 hq.2) (fun z => absurd rfl z)
set_option maxHeartbeats 2000000 in
set_option maxRecDepth 100000 in
theorem lc_work {p : Program} {l : Launch} {e : Env} {s : State} {m : MethodId} {below : List Frame} {meth : Method} {c : Code} {Q : State → Prop} {b L : Nat} {xs : Nat → Int32} {G : GT} {adX adM : Nat → Nat} {i : Nat} {H : Heap} {locs : List Loc} {ls : Array Slot} {σ τ : St} (X : CallFix p m c cL_law 4 s #[Value.ref b] wsL_law RL) (hX : va_X b L xs s s.heap) (hbl : b < s.heap.size) (hdis : ∀ i, i < LX.length → ∀ j, j < LM.length → adX i ≠ adM j) (hi : i + 5 ≤ L) (hL : L ≤ 2560) (hl : lv_has ls 4 [(3, iV (i : Nat)), (2, .ref (adM 0)), (1, .ref (adX 0)), (0, .ref b)]) (hw : Wy vwCl G LX adX (fun q => s.heap.size ≤ q) s H locs σ) (hw2 : Wy vwCl G LM adM (fun q => s.heap.size ≤ q) s H locs τ) (hR : Rel σ τ) (kk : ∀ (H : Heap) (locs : List Loc) (σ τ : St), Wy vwCl G LX adX (fun q => s.heap.size ≤ q) s H locs σ → Wy vwCl G LM adM (fun q => s.heap.size ≤ q) s H locs τ → Rel σ τ → W p l e room_1 s m #[Value.ref b] below meth c H locs 94 44590 Q (F0 m 1288 ls [])) : W p l e room_1 s m #[Value.ref b] below meth c H locs 94 44590 Q (F0 m 614 ls []) := by
  refine x_aload_n X dL_law_614 rfl (lv_at hl 2 rfl) ?_
  refine x_aload_n X dL_law_615 rfl (lv_at hl 3 rfl) ?_
  refine x_iload_n X dL_law_616 rfl (lv_at hl 0 rfl) ?_
  refine x_iconst X dL_law_617 ?_
  refine x_iadd X dL_law_618 ?_
  refine x_sld X hX hbl hw.2.2.2 (i + 1) (i32_id (by omega) (by omega)) (by omega) dL_law_619 ?_
  refine x_cvi2 X hw hw2 hdis [iV ((xs (i + 1)).toInt)] [] (c_P_work l G adX hw.2.1.1 σ ((xs (i + 1)).toInt) (op_work hR (i32_to _))) (cwV 1 X.2.2.2.2 gL_law_X7_work rfl rfl rfl hd_P_work ⟨Nat.le_of_ble_eq_true rfl, Nat.le_of_ble_eq_true rfl⟩) lx0 cX7 rfl hl.1 rfl (Nat.le_of_ble_eq_true rfl) dL_law_620 ⟨Nat.le_of_ble_eq_true rfl, Nat.le_of_ble_eq_true rfl⟩ (fun r σ1 H locs hV hw hw2 => ?_)
  refine x_aload_n X dL_law_623 rfl (lv_at hl 1 rfl) ?_
  refine x_aload_n X dL_law_624 rfl (lv_at hl 3 rfl) ?_
  refine x_iload_n X dL_law_625 rfl (lv_at hl 0 rfl) ?_
  refine x_iconst X dL_law_626 ?_
  refine x_iadd X dL_law_627 ?_
  refine x_sld X hX hbl hw.2.2.2 (i + 1) (i32_id (by omega) (by omega)) (by omega) dL_law_628 ?_
  refine x_cvi2 X hw2 hw (fun i hi j hj => (hdis j hj i hi).symm) [iV ((xs (i + 1)).toInt)] [iV r] (c_M_work l G adM hw2.2.1.1 τ ((xs (i + 1)).toInt) hV) (cwV 1 X.2.2.2.2 gL_law_X8_work rfl rfl rfl hd_M_work ⟨Nat.le_of_ble_eq_true rfl, Nat.le_of_ble_eq_true rfl⟩) lm0 cX8 rfl hl.1 rfl (Nat.le_of_ble_eq_true rfl) dL_law_629 ⟨Nat.le_of_ble_eq_true rfl, Nat.le_of_ble_eq_true rfl⟩ (fun r2 τ1 H locs hq hw2 hw => ?_)
  exact x_icmp_eq X hq.1 rfl 1288 dL_law_632 (by decide) (fun _ => kk H locs σ1 τ1 hw hw2 hq.2) (fun z => absurd rfl z)
set_option maxHeartbeats 2000000 in
set_option maxRecDepth 100000 in
theorem lc_works {p : Program} {l : Launch} {e : Env} {s : State} {m : MethodId} {below : List Frame} {meth : Method} {c : Code} {Q : State → Prop} {b L : Nat} {xs : Nat → Int32} {G : GT} {adX adM : Nat → Nat} {i : Nat} {H : Heap} {locs : List Loc} {ls : Array Slot} {σ τ : St} (X : CallFix p m c cL_law 4 s #[Value.ref b] wsL_law RL) (hX : va_X b L xs s s.heap) (hbl : b < s.heap.size) (hdis : ∀ i, i < LX.length → ∀ j, j < LM.length → adX i ≠ adM j) (hi : i + 5 ≤ L) (hL : L ≤ 2560) (hl : lv_has ls 4 [(3, iV (i : Nat)), (2, .ref (adM 0)), (1, .ref (adX 0)), (0, .ref b)]) (hw : Wy vwCl G LX adX (fun q => s.heap.size ≤ q) s H locs σ) (hw2 : Wy vwCl G LM adM (fun q => s.heap.size ≤ q) s H locs τ) (hR : Rel σ τ) (kk : ∀ (H : Heap) (locs : List Loc) (σ τ : St), Wy vwCl G LX adX (fun q => s.heap.size ≤ q) s H locs σ → Wy vwCl G LM adM (fun q => s.heap.size ≤ q) s H locs τ → Rel σ τ → W p l e room_1 s m #[Value.ref b] below meth c H locs 94 44590 Q (F0 m 1288 ls [])) : W p l e room_1 s m #[Value.ref b] below meth c H locs 94 44590 Q (F0 m 637 ls []) := by
  refine x_aload_n X dL_law_637 rfl (lv_at hl 2 rfl) ?_
  refine x_aload_n X dL_law_638 rfl (lv_at hl 3 rfl) ?_
  refine x_iload_n X dL_law_639 rfl (lv_at hl 0 rfl) ?_
  refine x_iconst X dL_law_640 ?_
  refine x_iadd X dL_law_641 ?_
  refine x_sld X hX hbl hw.2.2.2 (i + 1) (i32_id (by omega) (by omega)) (by omega) dL_law_642 ?_
  refine x_cvi2 X hw hw2 hdis [iV ((xs (i + 1)).toInt)] [] (c_P_works l G adX hw.2.1.1 σ ((xs (i + 1)).toInt) (op_works hR (i32_to _))) (cwV 1 X.2.2.2.2 gL_law_X7_works rfl rfl rfl hd_P_works ⟨Nat.le_of_ble_eq_true rfl, Nat.le_of_ble_eq_true rfl⟩) lx0 cX7 rfl hl.1 rfl (Nat.le_of_ble_eq_true rfl) dL_law_643 ⟨Nat.le_of_ble_eq_true rfl, Nat.le_of_ble_eq_true rfl⟩ (fun r σ1 H locs hV hw hw2 => ?_)
  refine x_aload_n X dL_law_646 rfl (lv_at hl 1 rfl) ?_
  refine x_aload_n X dL_law_647 rfl (lv_at hl 3 rfl) ?_
  refine x_iload_n X dL_law_648 rfl (lv_at hl 0 rfl) ?_
  refine x_iconst X dL_law_649 ?_
  refine x_iadd X dL_law_650 ?_
  refine x_sld X hX hbl hw.2.2.2 (i + 1) (i32_id (by omega) (by omega)) (by omega) dL_law_651 ?_
  refine x_cvi2 X hw2 hw (fun i hi j hj => (hdis j hj i hi).symm) [iV ((xs (i + 1)).toInt)] [iV r] (c_M_works_ l G adM hw2.2.1.1 τ ((xs (i + 1)).toInt) hV) (cwV 1 X.2.2.2.2 gL_law_X8_works_ rfl rfl rfl hd_M_works_ ⟨Nat.le_of_ble_eq_true rfl, Nat.le_of_ble_eq_true rfl⟩) lm0 cX8 rfl hl.1 rfl (Nat.le_of_ble_eq_true rfl) dL_law_652 ⟨Nat.le_of_ble_eq_true rfl, Nat.le_of_ble_eq_true rfl⟩ (fun r2 τ1 H locs hq hw2 hw => ?_)
  exact x_icmp_eq X hq.1 rfl 1288 dL_law_655 (by decide) (fun _ => kk H locs σ1 τ1 hw hw2 hq.2) (fun z => absurd rfl z)
set_option maxHeartbeats 2000000 in
set_option maxRecDepth 100000 in
theorem lc_back {p : Program} {l : Launch} {e : Env} {s : State} {m : MethodId} {below : List Frame} {meth : Method} {c : Code} {Q : State → Prop} {b L : Nat} {xs : Nat → Int32} {G : GT} {adX adM : Nat → Nat} {i : Nat} {H : Heap} {locs : List Loc} {ls : Array Slot} {σ τ : St} (X : CallFix p m c cL_law 4 s #[Value.ref b] wsL_law RL) (hX : va_X b L xs s s.heap) (hbl : b < s.heap.size) (hdis : ∀ i, i < LX.length → ∀ j, j < LM.length → adX i ≠ adM j) (hi : i + 5 ≤ L) (hL : L ≤ 2560) (hl : lv_has ls 4 [(3, iV (i : Nat)), (2, .ref (adM 0)), (1, .ref (adX 0)), (0, .ref b)]) (hw : Wy vwCl G LX adX (fun q => s.heap.size ≤ q) s H locs σ) (hw2 : Wy vwCl G LM adM (fun q => s.heap.size ≤ q) s H locs τ) (hR : Rel σ τ) (kk : ∀ (H : Heap) (locs : List Loc) (σ τ : St), Wy vwCl G LX adX (fun q => s.heap.size ≤ q) s H locs σ → Wy vwCl G LM adM (fun q => s.heap.size ≤ q) s H locs τ → Rel σ τ → W p l e room_1 s m #[Value.ref b] below meth c H locs 94 44590 Q (F0 m 1288 ls [])) : W p l e room_1 s m #[Value.ref b] below meth c H locs 94 44590 Q (F0 m 660 ls []) := by
  refine x_aload_n X dL_law_660 rfl (lv_at hl 2 rfl) ?_
  refine x_cvi2 X hw hw2 hdis [] [] (c_P_back l G adX hw.2.1.1 σ (op_back hR)) (cwV 0 X.2.2.2.2 gL_law_X7_back rfl rfl rfl hd_P_back ⟨Nat.le_of_ble_eq_true rfl, Nat.le_of_ble_eq_true rfl⟩) lx0 cX7 rfl hl.1 rfl (Nat.le_of_ble_eq_true rfl) dL_law_661 ⟨Nat.le_of_ble_eq_true rfl, Nat.le_of_ble_eq_true rfl⟩ (fun r σ1 H locs hV hw hw2 => ?_)
  refine x_aload_n X dL_law_664 rfl (lv_at hl 1 rfl) ?_
  refine x_cvi2 X hw2 hw (fun i hi j hj => (hdis j hj i hi).symm) [] [iV r] (c_M_back l G adM hw2.2.1.1 τ hV) (cwV 0 X.2.2.2.2 gL_law_X8_back rfl rfl rfl hd_M_back ⟨Nat.le_of_ble_eq_true rfl, Nat.le_of_ble_eq_true rfl⟩) lm0 cX8 rfl hl.1 rfl (Nat.le_of_ble_eq_true rfl) dL_law_665 ⟨Nat.le_of_ble_eq_true rfl, Nat.le_of_ble_eq_true rfl⟩ (fun r2 τ1 H locs hq hw2 hw => ?_)
  exact x_icmp_eq X hq.1 rfl 1288 dL_law_668 (by decide) (fun _ => kk H locs σ1 τ1 hw hw2 hq.2) (fun z => absurd rfl z)
set_option maxHeartbeats 2000000 in
set_option maxRecDepth 100000 in
theorem lc_worked {p : Program} {l : Launch} {e : Env} {s : State} {m : MethodId} {below : List Frame} {meth : Method} {c : Code} {Q : State → Prop} {b L : Nat} {xs : Nat → Int32} {G : GT} {adX adM : Nat → Nat} {i : Nat} {H : Heap} {locs : List Loc} {ls : Array Slot} {σ τ : St} (X : CallFix p m c cL_law 4 s #[Value.ref b] wsL_law RL) (hX : va_X b L xs s s.heap) (hbl : b < s.heap.size) (hdis : ∀ i, i < LX.length → ∀ j, j < LM.length → adX i ≠ adM j) (hi : i + 5 ≤ L) (hL : L ≤ 2560) (hl : lv_has ls 4 [(3, iV (i : Nat)), (2, .ref (adM 0)), (1, .ref (adX 0)), (0, .ref b)]) (hw : Wy vwCl G LX adX (fun q => s.heap.size ≤ q) s H locs σ) (hw2 : Wy vwCl G LM adM (fun q => s.heap.size ≤ q) s H locs τ) (hR : Rel σ τ) (kk : ∀ (H : Heap) (locs : List Loc) (σ τ : St), Wy vwCl G LX adX (fun q => s.heap.size ≤ q) s H locs σ → Wy vwCl G LM adM (fun q => s.heap.size ≤ q) s H locs τ → Rel σ τ → W p l e room_1 s m #[Value.ref b] below meth c H locs 94 44590 Q (F0 m 1288 ls [])) : W p l e room_1 s m #[Value.ref b] below meth c H locs 94 44590 Q (F0 m 673 ls []) := by
  refine x_aload_n X dL_law_673 rfl (lv_at hl 2 rfl) ?_
  refine x_aload_n X dL_law_674 rfl (lv_at hl 3 rfl) ?_
  refine x_iload_n X dL_law_675 rfl (lv_at hl 0 rfl) ?_
  refine x_iconst X dL_law_676 ?_
  refine x_iadd X dL_law_677 ?_
  refine x_sld X hX hbl hw.2.2.2 (i + 1) (i32_id (by omega) (by omega)) (by omega) dL_law_678 ?_
  refine x_cvi2 X hw hw2 hdis [iV ((xs (i + 1)).toInt)] [] (c_P_worked l G adX hw.2.1.1 σ ((xs (i + 1)).toInt) (op_worked hR (i32_to _))) (cwV 1 X.2.2.2.2 gL_law_X7_worked rfl rfl rfl hd_P_worked ⟨Nat.le_of_ble_eq_true rfl, Nat.le_of_ble_eq_true rfl⟩) lx0 cX7 rfl hl.1 rfl (Nat.le_of_ble_eq_true rfl) dL_law_679 ⟨Nat.le_of_ble_eq_true rfl, Nat.le_of_ble_eq_true rfl⟩ (fun r σ1 H locs hV hw hw2 => ?_)
  refine x_aload_n X dL_law_682 rfl (lv_at hl 1 rfl) ?_
  refine x_aload_n X dL_law_683 rfl (lv_at hl 3 rfl) ?_
  refine x_iload_n X dL_law_684 rfl (lv_at hl 0 rfl) ?_
  refine x_iconst X dL_law_685 ?_
  refine x_iadd X dL_law_686 ?_
  refine x_sld X hX hbl hw.2.2.2 (i + 1) (i32_id (by omega) (by omega)) (by omega) dL_law_687 ?_
  refine x_cvi2 X hw2 hw (fun i hi j hj => (hdis j hj i hi).symm) [iV ((xs (i + 1)).toInt)] [iV r] (c_M_worked l G adM hw2.2.1.1 τ ((xs (i + 1)).toInt) hV) (cwV 1 X.2.2.2.2 gL_law_X8_worked rfl rfl rfl hd_M_worked ⟨Nat.le_of_ble_eq_true rfl, Nat.le_of_ble_eq_true rfl⟩) lm0 cX8 rfl hl.1 rfl (Nat.le_of_ble_eq_true rfl) dL_law_688 ⟨Nat.le_of_ble_eq_true rfl, Nat.le_of_ble_eq_true rfl⟩ (fun r2 τ1 H locs hq hw2 hw => ?_)
  exact x_icmp_eq X hq.1 rfl 1288 dL_law_691 (by decide) (fun _ => kk H locs σ1 τ1 hw hw2 hq.2) (fun z => absurd rfl z)
set_option maxHeartbeats 2000000 in
set_option maxRecDepth 100000 in
theorem lc_at {p : Program} {l : Launch} {e : Env} {s : State} {m : MethodId} {below : List Frame} {meth : Method} {c : Code} {Q : State → Prop} {b L : Nat} {xs : Nat → Int32} {G : GT} {adX adM : Nat → Nat} {i : Nat} {H : Heap} {locs : List Loc} {ls : Array Slot} {σ τ : St} (X : CallFix p m c cL_law 4 s #[Value.ref b] wsL_law RL) (hX : va_X b L xs s s.heap) (hbl : b < s.heap.size) (hdis : ∀ i, i < LX.length → ∀ j, j < LM.length → adX i ≠ adM j) (hi : i + 5 ≤ L) (hL : L ≤ 2560) (hl : lv_has ls 4 [(3, iV (i : Nat)), (2, .ref (adM 0)), (1, .ref (adX 0)), (0, .ref b)]) (hw : Wy vwCl G LX adX (fun q => s.heap.size ≤ q) s H locs σ) (hw2 : Wy vwCl G LM adM (fun q => s.heap.size ≤ q) s H locs τ) (hR : Rel σ τ) (kk : ∀ (H : Heap) (locs : List Loc) (σ τ : St), Wy vwCl G LX adX (fun q => s.heap.size ≤ q) s H locs σ → Wy vwCl G LM adM (fun q => s.heap.size ≤ q) s H locs τ → Rel σ τ → W p l e room_1 s m #[Value.ref b] below meth c H locs 94 44590 Q (F0 m 1288 ls [])) : W p l e room_1 s m #[Value.ref b] below meth c H locs 94 44590 Q (F0 m 696 ls []) := by
  refine x_aload_n X dL_law_696 rfl (lv_at hl 2 rfl) ?_
  refine x_aload_n X dL_law_697 rfl (lv_at hl 3 rfl) ?_
  refine x_iload_n X dL_law_698 rfl (lv_at hl 0 rfl) ?_
  refine x_iconst X dL_law_699 ?_
  refine x_iadd X dL_law_700 ?_
  refine x_sld X hX hbl hw.2.2.2 (i + 1) (i32_id (by omega) (by omega)) (by omega) dL_law_701 ?_
  refine x_cvi2 X hw hw2 hdis [iV ((xs (i + 1)).toInt)] [] (c_P_at l G adX hw.2.1.1 σ ((xs (i + 1)).toInt) (op_at hR (i32_to _))) (cwV 1 X.2.2.2.2 gL_law_X7_at rfl rfl rfl hd_P_at ⟨Nat.le_of_ble_eq_true rfl, Nat.le_of_ble_eq_true rfl⟩) lx0 cX7 rfl hl.1 rfl (Nat.le_of_ble_eq_true rfl) dL_law_702 ⟨Nat.le_of_ble_eq_true rfl, Nat.le_of_ble_eq_true rfl⟩ (fun r σ1 H locs hV hw hw2 => ?_)
  refine x_aload_n X dL_law_705 rfl (lv_at hl 1 rfl) ?_
  refine x_aload_n X dL_law_706 rfl (lv_at hl 3 rfl) ?_
  refine x_iload_n X dL_law_707 rfl (lv_at hl 0 rfl) ?_
  refine x_iconst X dL_law_708 ?_
  refine x_iadd X dL_law_709 ?_
  refine x_sld X hX hbl hw.2.2.2 (i + 1) (i32_id (by omega) (by omega)) (by omega) dL_law_710 ?_
  refine x_cvi2 X hw2 hw (fun i hi j hj => (hdis j hj i hi).symm) [iV ((xs (i + 1)).toInt)] [iV r] (c_M_at l G adM hw2.2.1.1 τ ((xs (i + 1)).toInt) hV) (cwV 1 X.2.2.2.2 gL_law_X8_at rfl rfl rfl hd_M_at ⟨Nat.le_of_ble_eq_true rfl, Nat.le_of_ble_eq_true rfl⟩) lm0 cX8 rfl hl.1 rfl (Nat.le_of_ble_eq_true rfl) dL_law_711 ⟨Nat.le_of_ble_eq_true rfl, Nat.le_of_ble_eq_true rfl⟩ (fun r2 τ1 H locs hq hw2 hw => ?_)
  exact x_icmp_eq X hq.1 rfl 1288 dL_law_714 (by decide) (fun _ => kk H locs σ1 τ1 hw hw2 hq.2) (fun z => absurd rfl z)
set_option maxHeartbeats 2000000 in
set_option maxRecDepth 100000 in
theorem lc_wind {p : Program} {l : Launch} {e : Env} {s : State} {m : MethodId} {below : List Frame} {meth : Method} {c : Code} {Q : State → Prop} {b L : Nat} {xs : Nat → Int32} {G : GT} {adX adM : Nat → Nat} {i : Nat} {H : Heap} {locs : List Loc} {ls : Array Slot} {σ τ : St} (X : CallFix p m c cL_law 4 s #[Value.ref b] wsL_law RL) (hX : va_X b L xs s s.heap) (hbl : b < s.heap.size) (hdis : ∀ i, i < LX.length → ∀ j, j < LM.length → adX i ≠ adM j) (hi : i + 5 ≤ L) (hL : L ≤ 2560) (hl : lv_has ls 4 [(3, iV (i : Nat)), (2, .ref (adM 0)), (1, .ref (adX 0)), (0, .ref b)]) (hw : Wy vwCl G LX adX (fun q => s.heap.size ≤ q) s H locs σ) (hw2 : Wy vwCl G LM adM (fun q => s.heap.size ≤ q) s H locs τ) (hR : Rel σ τ) (kk : ∀ (H : Heap) (locs : List Loc) (σ τ : St), Wy vwCl G LX adX (fun q => s.heap.size ≤ q) s H locs σ → Wy vwCl G LM adM (fun q => s.heap.size ≤ q) s H locs τ → Rel σ τ → W p l e room_1 s m #[Value.ref b] below meth c H locs 94 44590 Q (F0 m 1288 ls [])) : W p l e room_1 s m #[Value.ref b] below meth c H locs 94 44590 Q (F0 m 719 ls []) := by
  refine x_aload_n X dL_law_719 rfl (lv_at hl 2 rfl) ?_
  refine x_aload_n X dL_law_720 rfl (lv_at hl 3 rfl) ?_
  refine x_iload_n X dL_law_721 rfl (lv_at hl 0 rfl) ?_
  refine x_iconst X dL_law_722 ?_
  refine x_iadd X dL_law_723 ?_
  refine x_sld X hX hbl hw.2.2.2 (i + 1) (i32_id (by omega) (by omega)) (by omega) dL_law_724 ?_
  refine x_aload_n X dL_law_725 rfl (lv_at hl 3 rfl) ?_
  refine x_iload_n X dL_law_726 rfl (lv_at hl 0 rfl) ?_
  refine x_iconst X dL_law_727 ?_
  refine x_iadd X dL_law_728 ?_
  refine x_sld X hX hbl hw.2.2.2 (i + 2) (i32_id (by omega) (by omega)) (by omega) dL_law_729 ?_
  refine x_cvi2 X hw hw2 hdis [iV ((xs (i + 1)).toInt), iV ((xs (i + 2)).toInt)] [] (c_P_wind l G adX hw.2.1.1 σ ((xs (i + 1)).toInt) ((xs (i + 2)).toInt) (op_wind hR (i32_to _) (i32_to _))) (cwV 2 X.2.2.2.2 gL_law_X7_wind rfl rfl rfl hd_P_wind ⟨Nat.le_of_ble_eq_true rfl, Nat.le_of_ble_eq_true rfl⟩) lx0 cX7 rfl hl.1 rfl (Nat.le_of_ble_eq_true rfl) dL_law_730 ⟨Nat.le_of_ble_eq_true rfl, Nat.le_of_ble_eq_true rfl⟩ (fun r σ1 H locs hV hw hw2 => ?_)
  refine x_aload_n X dL_law_733 rfl (lv_at hl 1 rfl) ?_
  refine x_aload_n X dL_law_734 rfl (lv_at hl 3 rfl) ?_
  refine x_iload_n X dL_law_735 rfl (lv_at hl 0 rfl) ?_
  refine x_iconst X dL_law_736 ?_
  refine x_iadd X dL_law_737 ?_
  refine x_sld X hX hbl hw.2.2.2 (i + 1) (i32_id (by omega) (by omega)) (by omega) dL_law_738 ?_
  refine x_aload_n X dL_law_739 rfl (lv_at hl 3 rfl) ?_
  refine x_iload_n X dL_law_740 rfl (lv_at hl 0 rfl) ?_
  refine x_iconst X dL_law_741 ?_
  refine x_iadd X dL_law_742 ?_
  refine x_sld X hX hbl hw.2.2.2 (i + 2) (i32_id (by omega) (by omega)) (by omega) dL_law_743 ?_
  refine x_cvi2 X hw2 hw (fun i hi j hj => (hdis j hj i hi).symm) [iV ((xs (i + 1)).toInt), iV ((xs (i + 2)).toInt)] [iV r] (c_M_wind l G adM hw2.2.1.1 τ ((xs (i + 1)).toInt) ((xs (i + 2)).toInt) hV) (cwV 2 X.2.2.2.2 gL_law_X8_wind rfl rfl rfl hd_M_wind ⟨Nat.le_of_ble_eq_true rfl, Nat.le_of_ble_eq_true rfl⟩) lm0 cX8 rfl hl.1 rfl (Nat.le_of_ble_eq_true rfl) dL_law_744 ⟨Nat.le_of_ble_eq_true rfl, Nat.le_of_ble_eq_true rfl⟩ (fun r2 τ1 H locs hq hw2 hw => ?_)
  exact x_icmp_eq X hq.1 rfl 1288 dL_law_747 (by decide) (fun _ => kk H locs σ1 τ1 hw hw2 hq.2) (fun z => absurd rfl z)
set_option maxHeartbeats 2000000 in
set_option maxRecDepth 100000 in
theorem lc_thread {p : Program} {l : Launch} {e : Env} {s : State} {m : MethodId} {below : List Frame} {meth : Method} {c : Code} {Q : State → Prop} {b L : Nat} {xs : Nat → Int32} {G : GT} {adX adM : Nat → Nat} {i : Nat} {H : Heap} {locs : List Loc} {ls : Array Slot} {σ τ : St} (X : CallFix p m c cL_law 4 s #[Value.ref b] wsL_law RL) (hX : va_X b L xs s s.heap) (hbl : b < s.heap.size) (hdis : ∀ i, i < LX.length → ∀ j, j < LM.length → adX i ≠ adM j) (hi : i + 5 ≤ L) (hL : L ≤ 2560) (hl : lv_has ls 4 [(3, iV (i : Nat)), (2, .ref (adM 0)), (1, .ref (adX 0)), (0, .ref b)]) (hw : Wy vwCl G LX adX (fun q => s.heap.size ≤ q) s H locs σ) (hw2 : Wy vwCl G LM adM (fun q => s.heap.size ≤ q) s H locs τ) (hR : Rel σ τ) (kk : ∀ (H : Heap) (locs : List Loc) (σ τ : St), Wy vwCl G LX adX (fun q => s.heap.size ≤ q) s H locs σ → Wy vwCl G LM adM (fun q => s.heap.size ≤ q) s H locs τ → Rel σ τ → W p l e room_1 s m #[Value.ref b] below meth c H locs 94 44590 Q (F0 m 1288 ls [])) : W p l e room_1 s m #[Value.ref b] below meth c H locs 94 44590 Q (F0 m 752 ls []) := by
  refine x_aload_n X dL_law_752 rfl (lv_at hl 2 rfl) ?_
  refine x_aload_n X dL_law_753 rfl (lv_at hl 3 rfl) ?_
  refine x_iload_n X dL_law_754 rfl (lv_at hl 0 rfl) ?_
  refine x_iconst X dL_law_755 ?_
  refine x_iadd X dL_law_756 ?_
  refine x_sld X hX hbl hw.2.2.2 (i + 1) (i32_id (by omega) (by omega)) (by omega) dL_law_757 ?_
  refine x_aload_n X dL_law_758 rfl (lv_at hl 3 rfl) ?_
  refine x_iload_n X dL_law_759 rfl (lv_at hl 0 rfl) ?_
  refine x_iconst X dL_law_760 ?_
  refine x_iadd X dL_law_761 ?_
  refine x_sld X hX hbl hw.2.2.2 (i + 2) (i32_id (by omega) (by omega)) (by omega) dL_law_762 ?_
  refine x_cvi2 X hw hw2 hdis [iV ((xs (i + 1)).toInt), iV ((xs (i + 2)).toInt)] [] (c_P_thread l G adX hw.2.1.1 σ ((xs (i + 1)).toInt) ((xs (i + 2)).toInt) (op_thread hR (i32_to _) (i32_to _))) (cwV 2 X.2.2.2.2 gL_law_X7_thread rfl rfl rfl hd_P_thread ⟨Nat.le_of_ble_eq_true rfl, Nat.le_of_ble_eq_true rfl⟩) lx0 cX7 rfl hl.1 rfl (Nat.le_of_ble_eq_true rfl) dL_law_763 ⟨Nat.le_of_ble_eq_true rfl, Nat.le_of_ble_eq_true rfl⟩ (fun r σ1 H locs hV hw hw2 => ?_)
  refine x_aload_n X dL_law_766 rfl (lv_at hl 1 rfl) ?_
  refine x_aload_n X dL_law_767 rfl (lv_at hl 3 rfl) ?_
  refine x_iload_n X dL_law_768 rfl (lv_at hl 0 rfl) ?_
  refine x_iconst X dL_law_769 ?_
  refine x_iadd X dL_law_770 ?_
  refine x_sld X hX hbl hw.2.2.2 (i + 1) (i32_id (by omega) (by omega)) (by omega) dL_law_771 ?_
  refine x_aload_n X dL_law_772 rfl (lv_at hl 3 rfl) ?_
  refine x_iload_n X dL_law_773 rfl (lv_at hl 0 rfl) ?_
  refine x_iconst X dL_law_774 ?_
  refine x_iadd X dL_law_775 ?_
  refine x_sld X hX hbl hw.2.2.2 (i + 2) (i32_id (by omega) (by omega)) (by omega) dL_law_776 ?_
  refine x_cvi2 X hw2 hw (fun i hi j hj => (hdis j hj i hi).symm) [iV ((xs (i + 1)).toInt), iV ((xs (i + 2)).toInt)] [iV r] (c_M_thread l G adM hw2.2.1.1 τ ((xs (i + 1)).toInt) ((xs (i + 2)).toInt) hV) (cwV 2 X.2.2.2.2 gL_law_X8_thread rfl rfl rfl hd_M_thread ⟨Nat.le_of_ble_eq_true rfl, Nat.le_of_ble_eq_true rfl⟩) lm0 cX8 rfl hl.1 rfl (Nat.le_of_ble_eq_true rfl) dL_law_777 ⟨Nat.le_of_ble_eq_true rfl, Nat.le_of_ble_eq_true rfl⟩ (fun r2 τ1 H locs hq hw2 hw => ?_)
  exact x_icmp_eq X hq.1 rfl 1288 dL_law_780 (by decide) (fun _ => kk H locs σ1 τ1 hw hw2 hq.2) (fun z => absurd rfl z)
set_option maxHeartbeats 2000000 in
set_option maxRecDepth 100000 in
theorem lc_place {p : Program} {l : Launch} {e : Env} {s : State} {m : MethodId} {below : List Frame} {meth : Method} {c : Code} {Q : State → Prop} {b L : Nat} {xs : Nat → Int32} {G : GT} {adX adM : Nat → Nat} {i : Nat} {H : Heap} {locs : List Loc} {ls : Array Slot} {σ τ : St} (X : CallFix p m c cL_law 4 s #[Value.ref b] wsL_law RL) (hX : va_X b L xs s s.heap) (hbl : b < s.heap.size) (hdis : ∀ i, i < LX.length → ∀ j, j < LM.length → adX i ≠ adM j) (hi : i + 5 ≤ L) (hL : L ≤ 2560) (hl : lv_has ls 4 [(3, iV (i : Nat)), (2, .ref (adM 0)), (1, .ref (adX 0)), (0, .ref b)]) (hw : Wy vwCl G LX adX (fun q => s.heap.size ≤ q) s H locs σ) (hw2 : Wy vwCl G LM adM (fun q => s.heap.size ≤ q) s H locs τ) (hR : Rel σ τ) (kk : ∀ (H : Heap) (locs : List Loc) (σ τ : St), Wy vwCl G LX adX (fun q => s.heap.size ≤ q) s H locs σ → Wy vwCl G LM adM (fun q => s.heap.size ≤ q) s H locs τ → Rel σ τ → W p l e room_1 s m #[Value.ref b] below meth c H locs 94 44590 Q (F0 m 1288 ls [])) : W p l e room_1 s m #[Value.ref b] below meth c H locs 94 44590 Q (F0 m 785 ls []) := by
  refine x_aload_n X dL_law_785 rfl (lv_at hl 2 rfl) ?_
  refine x_aload_n X dL_law_786 rfl (lv_at hl 3 rfl) ?_
  refine x_iload_n X dL_law_787 rfl (lv_at hl 0 rfl) ?_
  refine x_iconst X dL_law_788 ?_
  refine x_iadd X dL_law_789 ?_
  refine x_sld X hX hbl hw.2.2.2 (i + 1) (i32_id (by omega) (by omega)) (by omega) dL_law_790 ?_
  refine x_aload_n X dL_law_791 rfl (lv_at hl 3 rfl) ?_
  refine x_iload_n X dL_law_792 rfl (lv_at hl 0 rfl) ?_
  refine x_iconst X dL_law_793 ?_
  refine x_iadd X dL_law_794 ?_
  refine x_sld X hX hbl hw.2.2.2 (i + 2) (i32_id (by omega) (by omega)) (by omega) dL_law_795 ?_
  refine x_cvi2 X hw hw2 hdis [iV ((xs (i + 1)).toInt), iV ((xs (i + 2)).toInt)] [] (c_P_place l G adX hw.2.1.1 σ ((xs (i + 1)).toInt) ((xs (i + 2)).toInt) (op_place hR (i32_to _) (i32_to _))) (cwV 2 X.2.2.2.2 gL_law_X7_place rfl rfl rfl hd_P_place ⟨Nat.le_of_ble_eq_true rfl, Nat.le_of_ble_eq_true rfl⟩) lx0 cX7 rfl hl.1 rfl (Nat.le_of_ble_eq_true rfl) dL_law_796 ⟨Nat.le_of_ble_eq_true rfl, Nat.le_of_ble_eq_true rfl⟩ (fun r σ1 H locs hV hw hw2 => ?_)
  refine x_aload_n X dL_law_799 rfl (lv_at hl 1 rfl) ?_
  refine x_aload_n X dL_law_800 rfl (lv_at hl 3 rfl) ?_
  refine x_iload_n X dL_law_801 rfl (lv_at hl 0 rfl) ?_
  refine x_iconst X dL_law_802 ?_
  refine x_iadd X dL_law_803 ?_
  refine x_sld X hX hbl hw.2.2.2 (i + 1) (i32_id (by omega) (by omega)) (by omega) dL_law_804 ?_
  refine x_aload_n X dL_law_805 rfl (lv_at hl 3 rfl) ?_
  refine x_iload_n X dL_law_806 rfl (lv_at hl 0 rfl) ?_
  refine x_iconst X dL_law_807 ?_
  refine x_iadd X dL_law_808 ?_
  refine x_sld X hX hbl hw.2.2.2 (i + 2) (i32_id (by omega) (by omega)) (by omega) dL_law_809 ?_
  refine x_cvi2 X hw2 hw (fun i hi j hj => (hdis j hj i hi).symm) [iV ((xs (i + 1)).toInt), iV ((xs (i + 2)).toInt)] [iV r] (c_M_place l G adM hw2.2.1.1 τ ((xs (i + 1)).toInt) ((xs (i + 2)).toInt) hV) (cwV 2 X.2.2.2.2 gL_law_X8_place rfl rfl rfl hd_M_place ⟨Nat.le_of_ble_eq_true rfl, Nat.le_of_ble_eq_true rfl⟩) lm0 cX8 rfl hl.1 rfl (Nat.le_of_ble_eq_true rfl) dL_law_810 ⟨Nat.le_of_ble_eq_true rfl, Nat.le_of_ble_eq_true rfl⟩ (fun r2 τ1 H locs hq hw2 hw => ?_)
  exact x_icmp_eq X hq.1 rfl 1288 dL_law_813 (by decide) (fun _ => kk H locs σ1 τ1 hw hw2 hq.2) (fun z => absurd rfl z)
set_option maxHeartbeats 2000000 in
set_option maxRecDepth 100000 in
theorem lc_rounds {p : Program} {l : Launch} {e : Env} {s : State} {m : MethodId} {below : List Frame} {meth : Method} {c : Code} {Q : State → Prop} {b L : Nat} {xs : Nat → Int32} {G : GT} {adX adM : Nat → Nat} {i : Nat} {H : Heap} {locs : List Loc} {ls : Array Slot} {σ τ : St} (X : CallFix p m c cL_law 4 s #[Value.ref b] wsL_law RL) (hX : va_X b L xs s s.heap) (hbl : b < s.heap.size) (hdis : ∀ i, i < LX.length → ∀ j, j < LM.length → adX i ≠ adM j) (hi : i + 5 ≤ L) (hL : L ≤ 2560) (hl : lv_has ls 4 [(3, iV (i : Nat)), (2, .ref (adM 0)), (1, .ref (adX 0)), (0, .ref b)]) (hw : Wy vwCl G LX adX (fun q => s.heap.size ≤ q) s H locs σ) (hw2 : Wy vwCl G LM adM (fun q => s.heap.size ≤ q) s H locs τ) (hR : Rel σ τ) (kk : ∀ (H : Heap) (locs : List Loc) (σ τ : St), Wy vwCl G LX adX (fun q => s.heap.size ≤ q) s H locs σ → Wy vwCl G LM adM (fun q => s.heap.size ≤ q) s H locs τ → Rel σ τ → W p l e room_1 s m #[Value.ref b] below meth c H locs 94 44590 Q (F0 m 1288 ls [])) : W p l e room_1 s m #[Value.ref b] below meth c H locs 94 44590 Q (F0 m 818 ls []) := by
  refine x_aload_n X dL_law_818 rfl (lv_at hl 2 rfl) ?_
  refine x_cvl2 X hw hw2 hdis [] [] (c_P_rounds l G adX hw.2.1.1 σ (op_rounds hR)) (cwV 0 X.2.2.2.2 gL_law_X7_rounds rfl rfl rfl hd_P_rounds ⟨Nat.le_of_ble_eq_true rfl, Nat.le_of_ble_eq_true rfl⟩) lx0 cX7 rfl hl.1 rfl (Nat.le_of_ble_eq_true rfl) dL_law_819 ⟨Nat.le_of_ble_eq_true rfl, Nat.le_of_ble_eq_true rfl⟩ (fun r σ1 H locs hV hw hw2 => ?_)
  refine x_aload_n X dL_law_822 rfl (lv_at hl 1 rfl) ?_
  refine x_cvl2 X hw2 hw (fun i hi j hj => (hdis j hj i hi).symm) [] [lV r] (c_M_rounds l G adM hw2.2.1.1 τ hV) (cwV 0 X.2.2.2.2 gL_law_X8_rounds rfl rfl rfl hd_M_rounds ⟨Nat.le_of_ble_eq_true rfl, Nat.le_of_ble_eq_true rfl⟩) lm0 cX8 rfl hl.1 rfl (Nat.le_of_ble_eq_true rfl) dL_law_823 ⟨Nat.le_of_ble_eq_true rfl, Nat.le_of_ble_eq_true rfl⟩ (fun r2 τ1 H locs hq hw2 hw => ?_)
  exact x_lcmp_eq X hq.1 rfl 1288 dL_law_826 dL_law_827 (by decide) (fun _ => kk H locs σ1 τ1 hw hw2 hq.2) (fun z => absurd rfl z)
set_option maxHeartbeats 2000000 in
set_option maxRecDepth 100000 in
theorem lc_link {p : Program} {l : Launch} {e : Env} {s : State} {m : MethodId} {below : List Frame} {meth : Method} {c : Code} {Q : State → Prop} {b L : Nat} {xs : Nat → Int32} {G : GT} {adX adM : Nat → Nat} {i : Nat} {H : Heap} {locs : List Loc} {ls : Array Slot} {σ τ : St} (X : CallFix p m c cL_law 4 s #[Value.ref b] wsL_law RL) (hX : va_X b L xs s s.heap) (hbl : b < s.heap.size) (hdis : ∀ i, i < LX.length → ∀ j, j < LM.length → adX i ≠ adM j) (hi : i + 5 ≤ L) (hL : L ≤ 2560) (hl : lv_has ls 4 [(3, iV (i : Nat)), (2, .ref (adM 0)), (1, .ref (adX 0)), (0, .ref b)]) (hw : Wy vwCl G LX adX (fun q => s.heap.size ≤ q) s H locs σ) (hw2 : Wy vwCl G LM adM (fun q => s.heap.size ≤ q) s H locs τ) (hR : Rel σ τ) (kk : ∀ (H : Heap) (locs : List Loc) (σ τ : St), Wy vwCl G LX adX (fun q => s.heap.size ≤ q) s H locs σ → Wy vwCl G LM adM (fun q => s.heap.size ≤ q) s H locs τ → Rel σ τ → W p l e room_1 s m #[Value.ref b] below meth c H locs 94 44590 Q (F0 m 1288 ls [])) : W p l e room_1 s m #[Value.ref b] below meth c H locs 94 44590 Q (F0 m 832 ls []) := by
  refine x_aload_n X dL_law_832 rfl (lv_at hl 2 rfl) ?_
  refine x_aload_n X dL_law_833 rfl (lv_at hl 3 rfl) ?_
  refine x_iload_n X dL_law_834 rfl (lv_at hl 0 rfl) ?_
  refine x_iconst X dL_law_835 ?_
  refine x_iadd X dL_law_836 ?_
  refine x_sld X hX hbl hw.2.2.2 (i + 1) (i32_id (by omega) (by omega)) (by omega) dL_law_837 ?_
  refine x_aload_n X dL_law_838 rfl (lv_at hl 3 rfl) ?_
  refine x_iload_n X dL_law_839 rfl (lv_at hl 0 rfl) ?_
  refine x_iconst X dL_law_840 ?_
  refine x_iadd X dL_law_841 ?_
  refine x_sld X hX hbl hw.2.2.2 (i + 2) (i32_id (by omega) (by omega)) (by omega) dL_law_842 ?_
  refine x_cvi2 X hw hw2 hdis [iV ((xs (i + 1)).toInt), iV ((xs (i + 2)).toInt)] [] (c_P_link l G adX hw.2.1.1 σ ((xs (i + 1)).toInt) ((xs (i + 2)).toInt) (op_link hR (i32_to _) (i32_to _))) (cwV 2 X.2.2.2.2 gL_law_X7_link rfl rfl rfl hd_P_link ⟨Nat.le_of_ble_eq_true rfl, Nat.le_of_ble_eq_true rfl⟩) lx0 cX7 rfl hl.1 rfl (Nat.le_of_ble_eq_true rfl) dL_law_843 ⟨Nat.le_of_ble_eq_true rfl, Nat.le_of_ble_eq_true rfl⟩ (fun r σ1 H locs hV hw hw2 => ?_)
  refine x_aload_n X dL_law_846 rfl (lv_at hl 1 rfl) ?_
  refine x_aload_n X dL_law_847 rfl (lv_at hl 3 rfl) ?_
  refine x_iload_n X dL_law_848 rfl (lv_at hl 0 rfl) ?_
  refine x_iconst X dL_law_849 ?_
  refine x_iadd X dL_law_850 ?_
  refine x_sld X hX hbl hw.2.2.2 (i + 1) (i32_id (by omega) (by omega)) (by omega) dL_law_851 ?_
  refine x_aload_n X dL_law_852 rfl (lv_at hl 3 rfl) ?_
  refine x_iload_n X dL_law_853 rfl (lv_at hl 0 rfl) ?_
  refine x_iconst X dL_law_854 ?_
  refine x_iadd X dL_law_855 ?_
  refine x_sld X hX hbl hw.2.2.2 (i + 2) (i32_id (by omega) (by omega)) (by omega) dL_law_856 ?_
  refine x_cvi2 X hw2 hw (fun i hi j hj => (hdis j hj i hi).symm) [iV ((xs (i + 1)).toInt), iV ((xs (i + 2)).toInt)] [iV r] (c_M_link l G adM hw2.2.1.1 τ ((xs (i + 1)).toInt) ((xs (i + 2)).toInt) hV) (cwV 2 X.2.2.2.2 gL_law_X8_link rfl rfl rfl hd_M_link ⟨Nat.le_of_ble_eq_true rfl, Nat.le_of_ble_eq_true rfl⟩) lm0 cX8 rfl hl.1 rfl (Nat.le_of_ble_eq_true rfl) dL_law_857 ⟨Nat.le_of_ble_eq_true rfl, Nat.le_of_ble_eq_true rfl⟩ (fun r2 τ1 H locs hq hw2 hw => ?_)
  exact x_icmp_eq X hq.1 rfl 1288 dL_law_860 (by decide) (fun _ => kk H locs σ1 τ1 hw hw2 hq.2) (fun z => absurd rfl z)
set_option maxHeartbeats 2000000 in
set_option maxRecDepth 100000 in
theorem lc_meet {p : Program} {l : Launch} {e : Env} {s : State} {m : MethodId} {below : List Frame} {meth : Method} {c : Code} {Q : State → Prop} {b L : Nat} {xs : Nat → Int32} {G : GT} {adX adM : Nat → Nat} {i : Nat} {H : Heap} {locs : List Loc} {ls : Array Slot} {σ τ : St} (X : CallFix p m c cL_law 4 s #[Value.ref b] wsL_law RL) (hX : va_X b L xs s s.heap) (hbl : b < s.heap.size) (hdis : ∀ i, i < LX.length → ∀ j, j < LM.length → adX i ≠ adM j) (hi : i + 5 ≤ L) (hL : L ≤ 2560) (hl : lv_has ls 4 [(3, iV (i : Nat)), (2, .ref (adM 0)), (1, .ref (adX 0)), (0, .ref b)]) (hw : Wy vwCl G LX adX (fun q => s.heap.size ≤ q) s H locs σ) (hw2 : Wy vwCl G LM adM (fun q => s.heap.size ≤ q) s H locs τ) (hR : Rel σ τ) (kk : ∀ (H : Heap) (locs : List Loc) (σ τ : St), Wy vwCl G LX adX (fun q => s.heap.size ≤ q) s H locs σ → Wy vwCl G LM adM (fun q => s.heap.size ≤ q) s H locs τ → Rel σ τ → W p l e room_1 s m #[Value.ref b] below meth c H locs 94 44590 Q (F0 m 1288 ls [])) : W p l e room_1 s m #[Value.ref b] below meth c H locs 94 44590 Q (F0 m 865 ls []) := by
  refine x_aload_n X dL_law_865 rfl (lv_at hl 2 rfl) ?_
  refine x_aload_n X dL_law_866 rfl (lv_at hl 3 rfl) ?_
  refine x_iload_n X dL_law_867 rfl (lv_at hl 0 rfl) ?_
  refine x_iconst X dL_law_868 ?_
  refine x_iadd X dL_law_869 ?_
  refine x_sld X hX hbl hw.2.2.2 (i + 1) (i32_id (by omega) (by omega)) (by omega) dL_law_870 ?_
  refine x_aload_n X dL_law_871 rfl (lv_at hl 3 rfl) ?_
  refine x_iload_n X dL_law_872 rfl (lv_at hl 0 rfl) ?_
  refine x_iconst X dL_law_873 ?_
  refine x_iadd X dL_law_874 ?_
  refine x_sld X hX hbl hw.2.2.2 (i + 2) (i32_id (by omega) (by omega)) (by omega) dL_law_875 ?_
  refine x_cvi2 X hw hw2 hdis [iV ((xs (i + 1)).toInt), iV ((xs (i + 2)).toInt)] [] (c_P_meet l G adX hw.2.1.1 σ ((xs (i + 1)).toInt) ((xs (i + 2)).toInt) (op_meet hR (i32_to _) (i32_to _))) (cwV 2 X.2.2.2.2 gL_law_X7_meet rfl rfl rfl hd_P_meet ⟨Nat.le_of_ble_eq_true rfl, Nat.le_of_ble_eq_true rfl⟩) lx0 cX7 rfl hl.1 rfl (Nat.le_of_ble_eq_true rfl) dL_law_876 ⟨Nat.le_of_ble_eq_true rfl, Nat.le_of_ble_eq_true rfl⟩ (fun r σ1 H locs hV hw hw2 => ?_)
  refine x_aload_n X dL_law_879 rfl (lv_at hl 1 rfl) ?_
  refine x_aload_n X dL_law_880 rfl (lv_at hl 3 rfl) ?_
  refine x_iload_n X dL_law_881 rfl (lv_at hl 0 rfl) ?_
  refine x_iconst X dL_law_882 ?_
  refine x_iadd X dL_law_883 ?_
  refine x_sld X hX hbl hw.2.2.2 (i + 1) (i32_id (by omega) (by omega)) (by omega) dL_law_884 ?_
  refine x_aload_n X dL_law_885 rfl (lv_at hl 3 rfl) ?_
  refine x_iload_n X dL_law_886 rfl (lv_at hl 0 rfl) ?_
  refine x_iconst X dL_law_887 ?_
  refine x_iadd X dL_law_888 ?_
  refine x_sld X hX hbl hw.2.2.2 (i + 2) (i32_id (by omega) (by omega)) (by omega) dL_law_889 ?_
  refine x_cvi2 X hw2 hw (fun i hi j hj => (hdis j hj i hi).symm) [iV ((xs (i + 1)).toInt), iV ((xs (i + 2)).toInt)] [iV r] (c_M_meet l G adM hw2.2.1.1 τ ((xs (i + 1)).toInt) ((xs (i + 2)).toInt) hV) (cwV 2 X.2.2.2.2 gL_law_X8_meet rfl rfl rfl hd_M_meet ⟨Nat.le_of_ble_eq_true rfl, Nat.le_of_ble_eq_true rfl⟩) lm0 cX8 rfl hl.1 rfl (Nat.le_of_ble_eq_true rfl) dL_law_890 ⟨Nat.le_of_ble_eq_true rfl, Nat.le_of_ble_eq_true rfl⟩ (fun r2 τ1 H locs hq hw2 hw => ?_)
  exact x_icmp_eq X hq.1 rfl 1288 dL_law_893 (by decide) (fun _ => kk H locs σ1 τ1 hw hw2 hq.2) (fun z => absurd rfl z)
set_option maxHeartbeats 2000000 in
set_option maxRecDepth 100000 in
theorem lc_lacks {p : Program} {l : Launch} {e : Env} {s : State} {m : MethodId} {below : List Frame} {meth : Method} {c : Code} {Q : State → Prop} {b L : Nat} {xs : Nat → Int32} {G : GT} {adX adM : Nat → Nat} {i : Nat} {H : Heap} {locs : List Loc} {ls : Array Slot} {σ τ : St} (X : CallFix p m c cL_law 4 s #[Value.ref b] wsL_law RL) (hX : va_X b L xs s s.heap) (hbl : b < s.heap.size) (hdis : ∀ i, i < LX.length → ∀ j, j < LM.length → adX i ≠ adM j) (hi : i + 5 ≤ L) (hL : L ≤ 2560) (hl : lv_has ls 4 [(3, iV (i : Nat)), (2, .ref (adM 0)), (1, .ref (adX 0)), (0, .ref b)]) (hw : Wy vwCl G LX adX (fun q => s.heap.size ≤ q) s H locs σ) (hw2 : Wy vwCl G LM adM (fun q => s.heap.size ≤ q) s H locs τ) (hR : Rel σ τ) (kk : ∀ (H : Heap) (locs : List Loc) (σ τ : St), Wy vwCl G LX adX (fun q => s.heap.size ≤ q) s H locs σ → Wy vwCl G LM adM (fun q => s.heap.size ≤ q) s H locs τ → Rel σ τ → W p l e room_1 s m #[Value.ref b] below meth c H locs 94 44590 Q (F0 m 1288 ls [])) : W p l e room_1 s m #[Value.ref b] below meth c H locs 94 44590 Q (F0 m 898 ls []) := by
  refine x_aload_n X dL_law_898 rfl (lv_at hl 2 rfl) ?_
  refine x_aload_n X dL_law_899 rfl (lv_at hl 3 rfl) ?_
  refine x_iload_n X dL_law_900 rfl (lv_at hl 0 rfl) ?_
  refine x_iconst X dL_law_901 ?_
  refine x_iadd X dL_law_902 ?_
  refine x_sld X hX hbl hw.2.2.2 (i + 1) (i32_id (by omega) (by omega)) (by omega) dL_law_903 ?_
  refine x_cvi2 X hw hw2 hdis [iV ((xs (i + 1)).toInt)] [] (c_P_lacks l G adX hw.2.1.1 σ ((xs (i + 1)).toInt) (op_lacks hR (i32_to _))) (cwV 1 X.2.2.2.2 gL_law_X7_lacks rfl rfl rfl hd_P_lacks ⟨Nat.le_of_ble_eq_true rfl, Nat.le_of_ble_eq_true rfl⟩) lx0 cX7 rfl hl.1 rfl (Nat.le_of_ble_eq_true rfl) dL_law_904 ⟨Nat.le_of_ble_eq_true rfl, Nat.le_of_ble_eq_true rfl⟩ (fun r σ1 H locs hV hw hw2 => ?_)
  refine x_aload_n X dL_law_907 rfl (lv_at hl 1 rfl) ?_
  refine x_aload_n X dL_law_908 rfl (lv_at hl 3 rfl) ?_
  refine x_iload_n X dL_law_909 rfl (lv_at hl 0 rfl) ?_
  refine x_iconst X dL_law_910 ?_
  refine x_iadd X dL_law_911 ?_
  refine x_sld X hX hbl hw.2.2.2 (i + 1) (i32_id (by omega) (by omega)) (by omega) dL_law_912 ?_
  refine x_cvi2 X hw2 hw (fun i hi j hj => (hdis j hj i hi).symm) [iV ((xs (i + 1)).toInt)] [iV r] (c_M_lacks l G adM hw2.2.1.1 τ ((xs (i + 1)).toInt) hV) (cwV 1 X.2.2.2.2 gL_law_X8_lacks rfl rfl rfl hd_M_lacks ⟨Nat.le_of_ble_eq_true rfl, Nat.le_of_ble_eq_true rfl⟩) lm0 cX8 rfl hl.1 rfl (Nat.le_of_ble_eq_true rfl) dL_law_913 ⟨Nat.le_of_ble_eq_true rfl, Nat.le_of_ble_eq_true rfl⟩ (fun r2 τ1 H locs hq hw2 hw => ?_)
  exact x_icmp_eq X hq.1 rfl 1288 dL_law_916 (by decide) (fun _ => kk H locs σ1 τ1 hw hw2 hq.2) (fun z => absurd rfl z)
