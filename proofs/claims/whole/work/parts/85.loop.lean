-- THE LAW: its loop
theorem iV_one : iV 1 = Value.int 1 := congrArg Value.int (by decide)
set_option maxHeartbeats 2000000 in
theorem law_step {p : Program} {l : Launch} {e : Env} {s : State} {m : MethodId} {below : List Frame} {meth : Method} {c : Code} {b L : Nat} {xs : Nat → Int32} {G : GT} {adX adM : Nat → Nat} (X : CallFix p m c cL_law 4 s #[Value.ref b] wsL_law RL) (hr : meth.sig.returnType = ret) (hlocks : meth.locks = false) (hX : va_X b L xs s s.heap) (hbl : b < s.heap.size) (hdis : ∀ i, i < LX.length → ∀ j, j < LM.length → adX i ≠ adM j) (hL : L ≤ 2560) {i : Nat} (hi : i ≤ L + 5) {H : Heap} {locs : List Loc} {ls : Array Slot} {σ τ : St} (hl : lv_has ls 4 [(3, iV (i : Nat)), (2, .ref (adM 0)), (1, .ref (adX 0)), (0, .ref b)]) (hw : Wy vwCl G LX adX (fun q => s.heap.size ≤ q) s H locs σ) (hw2 : Wy vwCl G LM adM (fun q => s.heap.size ≤ q) s H locs τ) (hR : Rel σ τ) (kk : i + 5 ≤ L → ∀ (H : Heap) (locs : List Loc) (ls : Array Slot) (σ τ : St), lv_has ls 4 [(3, iV ((i + 5 : Nat) : Int)), (2, .ref (adM 0)), (1, .ref (adX 0)), (0, .ref b)] → Wy vwCl G LX adX (fun q => s.heap.size ≤ q) s H locs σ → Wy vwCl G LM adM (fun q => s.heap.size ≤ q) s H locs τ → Rel σ τ → W p l e room_1 s m #[Value.ref b] below meth c H locs 94 44590 (lw_Z below #[Value.ref b] s) (F0 m 18 ls [])) : W p l e room_1 s m #[Value.ref b] below meth c H locs 94 44590 (lw_Z below #[Value.ref b] s) (F0 m 18 ls []) := by
  refine x_iload_n X dL_law_18 rfl (lv_at hl 0 rfl) ?_
  refine x_aload_n X dL_law_19 rfl (lv_at hl 3 rfl) ?_
  refine va_slen X.1 X.2.1 hX hbl (Nat.not_le.mpr hbl) hw.2.2.2 dL_law_20 ?_
  rw [iV_nat]
  refine x_iconst X dL_law_21 ?_
  refine x_isub X dL_law_22 ?_
  refine x_icmp_gt X (i32_id (by omega) (by omega)) (i32_id (by omega) (by omega)) 1294 dL_law_23 (by decide) (fun _ => ?_) (fun hle => ?_)
  · refine x_iconst X dL_law_1294 ?_
    rw [iV_one]
    refine va_forget (fun q hq => hw.2.2.2.2.2 q hq) ?_
    refine W.widen (k := 600000) (n := 7302250) (by decide) (by decide) ?_
    exact lw_ret X.1 X.2.1 hr hlocks dL_law_1295
  · refine x_aload_n X dL_law_26 rfl (lv_at hl 3 rfl) ?_
    refine x_iload_n X dL_law_27 rfl (lv_at hl 0 rfl) ?_
    refine x_sld X hX hbl hw.2.2.2 i (i32_id (by omega) (by omega)) (by omega) dL_law_28 ?_
    refine x_bipush X dL_law_29 (by decide) ?_
    refine x_iand X dL_law_31 ?_
    have hi5 : i + 5 ≤ L := by omega
    have kb : ∀ (H : Heap) (locs : List Loc) (σ τ : St), Wy vwCl G LX adX (fun q => s.heap.size ≤ q) s H locs σ → Wy vwCl G LM adM (fun q => s.heap.size ≤ q) s H locs τ → Rel σ τ → W p l e room_1 s m #[Value.ref b] below meth c H locs 94 44590 (lw_Z below #[Value.ref b] s) (F0 m 1288 ls []) := fun H locs σ τ hw hw2 hR => by
      refine x_iinc X (k := 0) ((i + 5 : Nat) : Int) [(3, iV ((i + 5 : Nat) : Int)), (2, .ref (adM 0)), (1, .ref (adX 0)), (0, .ref b)] dL_law_1288 hl rfl (by omega) (by decide) rfl (fun ls hl => ?_)
      exact x_goto X 18 dL_law_1291 (by decide) (kk hi5 H locs ls σ τ hl hw hw2 hR)
    obtain ⟨v, hv⟩ : ∃ v, v = i32 (ian (xs i).toInt 63) := ⟨_, rfl⟩
    have h63 := ian63 (xs i).toInt
    rw [← hv] at h63
    by_cases hbig : 38 ≤ v
    · exact x_tabOut X 1288 dL_law_32 (Or.inr (by rw [← hv]; omega)) (by decide) (kb H locs σ τ hw hw2 hR)
    · have hc : v = 0 ∨ v = 1 ∨ v = 2 ∨ v = 3 ∨ v = 4 ∨ v = 5 ∨ v = 6 ∨ v = 7 ∨ v = 8 ∨ v = 9 ∨ v = 10 ∨ v = 11 ∨ v = 12 ∨ v = 13 ∨ v = 14 ∨ v = 15 ∨ v = 16 ∨ v = 17 ∨ v = 18 ∨ v = 19 ∨ v = 20 ∨ v = 21 ∨ v = 22 ∨ v = 23 ∨ v = 24 ∨ v = 25 ∨ v = 26 ∨ v = 27 ∨ v = 28 ∨ v = 29 ∨ v = 30 ∨ v = 31 ∨ v = 32 ∨ v = 33 ∨ v = 34 ∨ v = 35 ∨ v = 36 ∨ v = 37 := by omega
      rcases hc with rfl | rfl | rfl | rfl | rfl | rfl | rfl | rfl | rfl | rfl | rfl | rfl | rfl | rfl | rfl | rfl | rfl | rfl | rfl | rfl | rfl | rfl | rfl | rfl | rfl | rfl | rfl | rfl | rfl | rfl | rfl | rfl | rfl | rfl | rfl | rfl | rfl | rfl
      · exact x_tabIn X 0 200 (off := 168) dL_law_32 hv.symm (by decide) (by decide) rfl (by decide) (lc_pairs X hX hbl hdis hi5 hL hl hw hw2 hR kb)
      · exact x_tabIn X 1 223 (off := 191) dL_law_32 hv.symm (by decide) (by decide) rfl (by decide) (lc_lay X hX hbl hdis hi5 hL hl hw hw2 hR kb)
      · exact x_tabIn X 2 266 (off := 234) dL_law_32 hv.symm (by decide) (by decide) rfl (by decide) (lc_look X hX hbl hdis hi5 hL hl hw hw2 hR kb)
      · exact x_tabIn X 3 299 (off := 267) dL_law_32 hv.symm (by decide) (by decide) rfl (by decide) (lc_feed X hX hbl hdis hi5 hL hl hw hw2 hR kb)
      · exact x_tabIn X 4 322 (off := 290) dL_law_32 hv.symm (by decide) (by decide) rfl (by decide) (lc_read X hX hbl hdis hi5 hL hl hw hw2 hR kb)
      · exact x_tabIn X 5 335 (off := 303) dL_law_32 hv.symm (by decide) (by decide) rfl (by decide) (lc_spell X hX hbl hdis hi5 hL hl hw hw2 hR kb)
      · exact x_tabIn X 6 358 (off := 326) dL_law_32 hv.symm (by decide) (by decide) rfl (by decide) (lc_word X hX hbl hdis hi5 hL hl hw hw2 hR kb)
      · exact x_tabIn X 7 391 (off := 359) dL_law_32 hv.symm (by decide) (by decide) rfl (by decide) (lc_letter X hX hbl hdis hi5 hL hl hw hw2 hR kb)
      · exact x_tabIn X 8 424 (off := 392) dL_law_32 hv.symm (by decide) (by decide) rfl (by decide) (lc_stitches X hX hbl hdis hi5 hL hl hw hw2 hR kb)
      · exact x_tabIn X 9 447 (off := 415) dL_law_32 hv.symm (by decide) (by decide) rfl (by decide) (lc_stitch X hX hbl hdis hi5 hL hl hw hw2 hR kb)
      · exact x_tabIn X 10 480 (off := 448) dL_law_32 hv.symm (by decide) (by decide) rfl (by decide) (lc_ahead X hX hbl hdis hi5 hL hl hw hw2 hR kb)
      · exact x_tabIn X 11 513 (off := 481) dL_law_32 hv.symm (by decide) (by decide) rfl (by decide) (lc_orders X hX hbl hdis hi5 hL hl hw hw2 hR kb)
      · exact x_tabIn X 12 527 (off := 495) dL_law_32 hv.symm (by decide) (by decide) rfl (by decide) (lc_order X hX hbl hdis hi5 hL hl hw hw2 hR kb)
      · exact x_tabIn X 13 590 (off := 558) dL_law_32 hv.symm (by decide) (by decide) rfl (by decide) (lc_rank X hX hbl hdis hi5 hL hl hw hw2 hR kb)
      · exact x_tabIn X 14 614 (off := 582) dL_law_32 hv.symm (by decide) (by decide) rfl (by decide) (lc_work X hX hbl hdis hi5 hL hl hw hw2 hR kb)
      · exact x_tabIn X 15 637 (off := 605) dL_law_32 hv.symm (by decide) (by decide) rfl (by decide) (lc_works X hX hbl hdis hi5 hL hl hw hw2 hR kb)
      · exact x_tabIn X 16 660 (off := 628) dL_law_32 hv.symm (by decide) (by decide) rfl (by decide) (lc_back X hX hbl hdis hi5 hL hl hw hw2 hR kb)
      · exact x_tabIn X 17 673 (off := 641) dL_law_32 hv.symm (by decide) (by decide) rfl (by decide) (lc_worked X hX hbl hdis hi5 hL hl hw hw2 hR kb)
      · exact x_tabIn X 18 696 (off := 664) dL_law_32 hv.symm (by decide) (by decide) rfl (by decide) (lc_at X hX hbl hdis hi5 hL hl hw hw2 hR kb)
      · exact x_tabIn X 19 719 (off := 687) dL_law_32 hv.symm (by decide) (by decide) rfl (by decide) (lc_wind X hX hbl hdis hi5 hL hl hw hw2 hR kb)
      · exact x_tabIn X 20 752 (off := 720) dL_law_32 hv.symm (by decide) (by decide) rfl (by decide) (lc_thread X hX hbl hdis hi5 hL hl hw hw2 hR kb)
      · exact x_tabIn X 21 785 (off := 753) dL_law_32 hv.symm (by decide) (by decide) rfl (by decide) (lc_place X hX hbl hdis hi5 hL hl hw hw2 hR kb)
      · exact x_tabIn X 22 818 (off := 786) dL_law_32 hv.symm (by decide) (by decide) rfl (by decide) (lc_rounds X hX hbl hdis hi5 hL hl hw hw2 hR kb)
      · exact x_tabIn X 23 832 (off := 800) dL_law_32 hv.symm (by decide) (by decide) rfl (by decide) (lc_link X hX hbl hdis hi5 hL hl hw hw2 hR kb)
      · exact x_tabIn X 24 865 (off := 833) dL_law_32 hv.symm (by decide) (by decide) rfl (by decide) (lc_meet X hX hbl hdis hi5 hL hl hw hw2 hR kb)
      · exact x_tabIn X 25 898 (off := 866) dL_law_32 hv.symm (by decide) (by decide) rfl (by decide) (lc_lacks X hX hbl hdis hi5 hL hl hw hw2 hR kb)
      · exact x_tabIn X 26 921 (off := 889) dL_law_32 hv.symm (by decide) (by decide) rfl (by decide) (lc_lace X hX hbl hdis hi5 hL hl hw hw2 hR kb)
      · exact x_tabIn X 27 954 (off := 922) dL_law_32 hv.symm (by decide) (by decide) rfl (by decide) (lc_layer X hX hbl hdis hi5 hL hl hw hw2 hR kb)
      · exact x_tabIn X 28 997 (off := 965) dL_law_32 hv.symm (by decide) (by decide) rfl (by decide) (lc_repeat X hX hbl hdis hi5 hL hl hw hw2 hR kb)
      · exact x_tabIn X 29 1010 (off := 978) dL_law_32 hv.symm (by decide) (by decide) rfl (by decide) (lc_motif X hX hbl hdis hi5 hL hl hw hw2 hR kb)
      · exact x_tabIn X 30 1053 (off := 1021) dL_law_32 hv.symm (by decide) (by decide) rfl (by decide) (lc_sheet X hX hbl hdis hi5 hL hl hw hw2 hR kb)
      · exact x_tabIn X 31 1096 (off := 1064) dL_law_32 hv.symm (by decide) (by decide) rfl (by decide) (lc_put X hX hbl hdis hi5 hL hl hw hw2 hR kb)
      · exact x_tabIn X 32 1169 (off := 1137) dL_law_32 hv.symm (by decide) (by decide) rfl (by decide) (lc_number X hX hbl hdis hi5 hL hl hw hw2 hR kb)
      · exact x_tabIn X 33 1203 (off := 1171) dL_law_32 hv.symm (by decide) (by decide) rfl (by decide) (lc_image X hX hbl hdis hi5 hL hl hw hw2 hR kb)
      · exact x_tabIn X 34 1216 (off := 1184) dL_law_32 hv.symm (by decide) (by decide) rfl (by decide) (lc_restore X hX hbl hdis hi5 hL hl hw hw2 hR kb)
      · exact x_tabIn X 35 1229 (off := 1197) dL_law_32 hv.symm (by decide) (by decide) rfl (by decide) (lc_alike X hX hbl hdis hi5 hL hl hw hw2 hR kb)
      · exact x_tabIn X 36 1242 (off := 1210) dL_law_32 hv.symm (by decide) (by decide) rfl (by decide) (lc_count X hX hbl hdis hi5 hL hl hw hw2 hR kb)
      · exact x_tabIn X 37 1265 (off := 1233) dL_law_32 hv.symm (by decide) (by decide) rfl (by decide) (lc_told X hX hbl hdis hi5 hL hl hw hw2 hR kb)
theorem law_loop {p : Program} {l : Launch} {e : Env} {s : State} {m : MethodId} {below : List Frame} {meth : Method} {c : Code} {b L : Nat} {xs : Nat → Int32} {G : GT} {adX adM : Nat → Nat} (X : CallFix p m c cL_law 4 s #[Value.ref b] wsL_law RL) (hr : meth.sig.returnType = ret) (hlocks : meth.locks = false) (hX : va_X b L xs s s.heap) (hbl : b < s.heap.size) (hdis : ∀ i, i < LX.length → ∀ j, j < LM.length → adX i ≠ adM j) (hL : L ≤ 2560) : ∀ (n i : Nat) (H : Heap) (locs : List Loc) (ls : Array Slot) (σ τ : St), L + 5 ≤ i + n → i ≤ L + 5 → lv_has ls 4 [(3, iV (i : Nat)), (2, .ref (adM 0)), (1, .ref (adX 0)), (0, .ref b)] → Wy vwCl G LX adX (fun q => s.heap.size ≤ q) s H locs σ → Wy vwCl G LM adM (fun q => s.heap.size ≤ q) s H locs τ → Rel σ τ → W p l e room_1 s m #[Value.ref b] below meth c H locs 94 44590 (lw_Z below #[Value.ref b] s) (F0 m 18 ls []) := by
  intro n
  induction n with
  | zero => exact fun i H locs ls σ τ hn hi hl hw hw2 hR => law_step X hr hlocks hX hbl hdis hL hi hl hw hw2 hR (fun h => by omega)
  | succ n ih => exact fun i H locs ls σ τ hn hi hl hw hw2 hR => law_step X hr hlocks hX hbl hdis hL hi hl hw hw2 hR (fun h H locs ls σ τ hl hw hw2 hR => ih (i + 5) H locs ls σ τ (by omega) (by omega) hl hw hw2 hR)
