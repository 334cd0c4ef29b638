theorem n_M_lists_0 : Cond.fieldLink RX8 120 "LacePillowModel" "many" "I" ∈ wsX8_lists := by decide +kernel
theorem n_M_lists_1 : ∀ w ∈ wsX80, w ∈ wsX8_lists := by decide +kernel
set_option maxHeartbeats 4000000 in
set_option maxRecDepth 100000 in
theorem c_M_lists (l : Launch) (G : GT) (ad : Nat → Nat) (hI : Inj LM ad) (σ : St) {Q : St → Prop} (hV : V_M_lists σ Q) : Met l yX8_lists wsX8_lists (rmx 2 46) (Pq vwCl G LM ad σ [.ref (ad 0)]) (Qv vwCl G LM ad Q) 0 0 (Ax LM ad) := by
  unfold V_M_lists at hV
  refine x_metv (own := RX8) (by decide) rfl rfl (Nat.le_of_ble_eq_true rfl) hI ?_
  intro p e s m args below meth c R QQ X hR hret ls hl hw
  replace hl : lv_has ls 3 [(0, .ref (ad 0))] := hl
  obtain ⟨H, hH⟩ : ∃ z, z = s.heap := ⟨_, rfl⟩
  obtain ⟨locs, hlo⟩ : ∃ z : List Loc, z = [] := ⟨_, rfl⟩
  rw [← hH, ← hlo]
  replace hw : Wx vwCl G LM ad s H locs σ := by rw [hH, hlo]; exact hw
  clear hH hlo
  refine x_aload_n X dX8_lists_0 rfl (lv_at hl 0 rfl) ?_
  refine x_iconst X dX8_lists_1 ?_
  refine x_puti X hw lm0 cX8 5 (by decide) rfl n_M_lists_1 n_M_lists_0 tyX8 tyX8_ok nmX8 rfl rfl rfl dX8_lists_2 (fun H locs σ1 hs hw => ?_)
  replace hV := hV σ1 hs
  refine x_iconst X dX8_lists_5 ?_
  refine x_istore_n X [(1, iV 0), (0, .ref (ad 0))] dX8_lists_6 rfl hl (by decide) rfl (fun ls hl => ?_)
  refine WL1.use (Gl := fun x1_2 σ3 => ∀ (H : Heap) (locs : List Loc) (ls : Array Slot), Wx vwCl G LM ad s H locs σ3 → lv_has ls 3 [(1, iV x1_2), (0, .ref (ad 0))] → W p l e R s m args below meth c H locs 0 0 QQ (F0 m 7 ls [])) ?_ hV H locs ls hw hl
  clear hV hw hl H locs ls
  intro bk4 x1_2 σ3 hbk4 hV H locs ls hw hl
  refine x_iload_n X dX8_lists_7 rfl (lv_at hl 0 rfl) ?_
  refine x_bipush X dX8_lists_8 (by decide) ?_
  refine x_icmp_ge X rfl k32_12 50 dX8_lists_10 (by decide) (fun hc => ?_) (fun hc => ?_)
  · replace hV := hV.1 hc
    exact hret σ3 H locs ls 50 hV hw dX8_lists_50
  · replace hV := hV.2 hc
    refine x_iconst X dX8_lists_13 ?_
    refine x_istore_n X [(2, iV 0), (1, iV x1_2), (0, .ref (ad 0))] dX8_lists_14 rfl hl (by decide) rfl (fun ls hl => ?_)
    refine WL1.use (Gl := fun x2_5 σ6 => ∀ (H : Heap) (locs : List Loc) (ls : Array Slot), Wx vwCl G LM ad s H locs σ6 → lv_has ls 3 [(2, iV x2_5), (1, iV x1_2), (0, .ref (ad 0))] → W p l e R s m args below meth c H locs 0 0 QQ (F0 m 15 ls [])) ?_ hV H locs ls hw hl
    clear hV hw hl H locs ls
    intro bk7 x2_5 σ6 hbk7 hV H locs ls hw hl
    refine x_iload_n X dX8_lists_15 rfl (lv_at hl 0 rfl) ?_
    refine x_aload_n X dX8_lists_16 rfl (lv_at hl 2 rfl) ?_
    refine x_cvi X hw [] [iV x2_5] (c_M_gaps l G ad hI σ6 hV) (cwV 0 X.2.2.2.2 gX8_lists_X8_gaps rfl rfl rfl hd_M_gaps ⟨x_fr hR.1 rfl, x_fr hR.2 rfl⟩) lm0 cX8 rfl hl.1 rfl (Nat.le_of_ble_eq_true rfl) dX8_lists_17 ⟨Nat.zero_le _, Nat.zero_le _⟩ (fun r9 σ8 H locs hV hw => ?_)
    refine x_icmp_ge X rfl rfl 44 dX8_lists_20 (by decide) (fun hc => ?_) (fun hc => ?_)
    · replace hV := hV.1 hc
      refine x_iinc X (k := 1) (x1_2 + 1) [(1, iV (x1_2 + 1)), (2, iV x2_5), (0, .ref (ad 0))] dX8_lists_44 hl rfl rfl (by decide) rfl (fun ls hl => ?_)
      refine x_goto X 7 dX8_lists_47 (by decide) ?_
      exact hbk4 (x1_2 + 1) σ8 hV H locs ls hw (lv_sub hl [0, 2] rfl)
    · replace hV := hV.2 hc
      refine x_aload_n X dX8_lists_23 rfl (lv_at hl 2 rfl) ?_
      refine x_iload_n X dX8_lists_24 rfl (lv_at hl 1 rfl) ?_
      refine x_iload_n X dX8_lists_25 rfl (lv_at hl 0 rfl) ?_
      refine x_cvi X hw [iV x1_2, iV x2_5] [] (c_M_held l G ad hI σ8 x1_2 x2_5 hV) (cwV 2 X.2.2.2.2 gX8_lists_X8_held rfl rfl rfl hd_M_held ⟨x_fr hR.1 rfl, x_fr hR.2 rfl⟩) lm0 cX8 rfl hl.1 rfl (Nat.le_of_ble_eq_true rfl) dX8_lists_26 ⟨Nat.zero_le _, Nat.zero_le _⟩ (fun r11 σ10 H locs hV hw => ?_)
      refine x_if_lt X rfl 38 dX8_lists_29 (by decide) (fun hc => ?_) (fun hc => ?_)
      · replace hV := hV.1 hc
        refine x_iinc X (k := 0) (x2_5 + 1) [(2, iV (x2_5 + 1)), (1, iV x1_2), (0, .ref (ad 0))] dX8_lists_38 hl rfl rfl (by decide) rfl (fun ls hl => ?_)
        refine x_goto X 15 dX8_lists_41 (by decide) ?_
        exact hbk7 (x2_5 + 1) σ10 hV H locs ls hw hl
      · replace hV := hV.2 hc
        refine x_aload_n X dX8_lists_32 rfl (lv_at hl 2 rfl) ?_
        refine x_iload_n X dX8_lists_33 rfl (lv_at hl 1 rfl) ?_
        refine x_iload_n X dX8_lists_34 rfl (lv_at hl 0 rfl) ?_
        refine x_cvv X hw [iV x1_2, iV x2_5] [] (c_M_add l G ad hI σ10 x1_2 x2_5 hV) (cwV 2 X.2.2.2.2 gX8_lists_X8_add rfl rfl rfl hd_M_add ⟨x_fr hR.1 rfl, x_fr hR.2 rfl⟩) lm0 cX8 rfl hl.1 rfl (Nat.le_of_ble_eq_true rfl) dX8_lists_35 ⟨Nat.zero_le _, Nat.zero_le _⟩ (fun σ12 H locs hV hw => ?_)
        refine x_iinc X (k := 0) (x2_5 + 1) [(2, iV (x2_5 + 1)), (1, iV x1_2), (0, .ref (ad 0))] dX8_lists_38 hl rfl rfl (by decide) rfl (fun ls hl => ?_)
        refine x_goto X 15 dX8_lists_41 (by decide) ?_
        exact hbk7 (x2_5 + 1) σ12 hV H locs ls hw hl

theorem n_M_anew_0 : Cond.fieldLink RX8 9 "LacePillowModel" "now" "[I" ∈ wsX8_anew := by decide +kernel
theorem n_M_anew_1 : ∀ w ∈ wsX80, w ∈ wsX8_anew := by decide +kernel
set_option maxHeartbeats 4000000 in
set_option maxRecDepth 100000 in
theorem c_M_anew (l : Launch) (G : GT) (ad : Nat → Nat) (hI : Inj LM ad) (σ : St) {Q : St → Prop} (hV : V_M_anew σ Q) : Met l yX8_anew wsX8_anew (rmx 3 68) (Pq vwCl G LM ad σ [.ref (ad 0)]) (Qv vwCl G LM ad Q) 0 0 (Ax LM ad) := by
  unfold V_M_anew at hV
  refine x_metv (own := RX8) (by decide) rfl rfl (Nat.le_of_ble_eq_true rfl) hI ?_
  intro p e s m args below meth c R QQ X hR hret ls hl hw
  replace hl : lv_has ls 1 [(0, .ref (ad 0))] := hl
  obtain ⟨H, hH⟩ : ∃ z, z = s.heap := ⟨_, rfl⟩
  obtain ⟨locs, hlo⟩ : ∃ z : List Loc, z = [] := ⟨_, rfl⟩
  rw [← hH, ← hlo]
  replace hw : Wx vwCl G LM ad s H locs σ := by rw [hH, hlo]; exact hw
  clear hH hlo
  refine x_aload_n X dX8_anew_0 rfl (lv_at hl 0 rfl) ?_
  refine x_getr X hw lm0 cX8 0 (by decide) rfl n_M_anew_1 n_M_anew_0 dX8_anew_1 ?_
  refine x_iconst X dX8_anew_4 ?_
  refine x_iconst X dX8_anew_5 ?_
  refine x_iast X hw lm1 k32_1 rfl (show (0 : Int) ≤ 1 ∧ (1 : Int) < 204 by decide) dX8_anew_6 (fun H locs σ1 hs hw => ?_)
  replace hV := hV σ1 hs
  refine x_aload_n X dX8_anew_7 rfl (lv_at hl 0 rfl) ?_
  refine x_cvv X hw [] [] (c_M_lists l G ad hI σ1 hV) (cwV 0 X.2.2.2.2 gX8_anew_X8_lists rfl rfl rfl hd_M_lists ⟨x_fr hR.1 rfl, x_fr hR.2 rfl⟩) lm0 cX8 rfl hl.1 rfl (Nat.le_of_ble_eq_true rfl) dX8_anew_8 ⟨Nat.zero_le _, Nat.zero_le _⟩ (fun σ2 H locs hV hw => ?_)
  exact hret σ2 H locs ls 11 hV hw dX8_anew_11

theorem n_M_workedSet_0 : Cond.fieldLink RX8 9 "LacePillowModel" "now" "[I" ∈ wsX8_workedSet := by decide +kernel
theorem n_M_workedSet_1 : ∀ w ∈ wsX80, w ∈ wsX8_workedSet := by decide +kernel
set_option maxHeartbeats 4000000 in
set_option maxRecDepth 100000 in
theorem c_M_workedSet (l : Launch) (G : GT) (ad : Nat → Nat) (hI : Inj LM ad) (σ : St) {Q : Int → St → Prop} (hV : V_M_workedSet σ Q) : Met l yX8_workedSet wsX8_workedSet (rmx 0 0) (Pq vwCl G LM ad σ [.ref (ad 0)]) (Ql vwCl G LM ad Q) 0 0 (Ax LM ad) := by
  unfold V_M_workedSet at hV
  refine x_metl (own := RX8) (by decide) rfl rfl (Nat.le_of_ble_eq_true rfl) hI ?_
  intro p e s m args below meth c R QQ X hR hret ls hl hw
  replace hl : lv_has ls 4 [(0, .ref (ad 0))] := hl
  obtain ⟨H, hH⟩ : ∃ z, z = s.heap := ⟨_, rfl⟩
  obtain ⟨locs, hlo⟩ : ∃ z : List Loc, z = [] := ⟨_, rfl⟩
  rw [← hH, ← hlo]
  replace hw : Wx vwCl G LM ad s H locs σ := by rw [hH, hlo]; exact hw
  clear hH hlo
  refine x_lconst X 0 dX8_workedSet_0 rfl ?_
  refine x_lstore_n X [(1, lV 0), (0, .ref (ad 0))] dX8_workedSet_1 rfl hl (by decide) rfl (fun ls hl => ?_)
  refine x_iconst X dX8_workedSet_2 ?_
  refine x_istore_n X [(3, iV 0), (1, lV 0), (0, .ref (ad 0))] dX8_workedSet_3 rfl hl (by decide) rfl (fun ls hl => ?_)
  refine WL2.use (Gl := fun x3_1 x1_2 σ3 => ∀ (H : Heap) (locs : List Loc) (ls : Array Slot), Wx vwCl G LM ad s H locs σ3 → lv_has ls 4 [(3, iV x3_1), (1, lV x1_2), (0, .ref (ad 0))] → W p l e R s m args below meth c H locs 0 0 QQ (F0 m 4 ls [])) ?_ hV H locs ls hw hl
  clear hV hw hl H locs ls
  intro bk4 x3_1 x1_2 σ3 hbk4 hV H locs ls hw hl
  refine x_iload_n X dX8_workedSet_4 rfl (lv_at hl 0 rfl) ?_
  refine x_aload_n X dX8_workedSet_5 rfl (lv_at hl 2 rfl) ?_
  refine x_getr X hw lm0 cX8 0 (by decide) rfl n_M_workedSet_1 n_M_workedSet_0 dX8_workedSet_6 ?_
  refine x_iconst X dX8_workedSet_9 ?_
  refine x_iald X hw lm1 k32_1 rfl (show (0 : Int) ≤ 1 ∧ (1 : Int) < 204 by decide) dX8_workedSet_10 ?_
  refine x_icmp_ge X rfl rfl 35 dX8_workedSet_11 (by decide) (fun hc => ?_) (fun hc => ?_)
  · replace hV := hV.1 hc
    refine x_lload_n X dX8_workedSet_35 rfl (lv_at hl 1 rfl) ?_
    exact hret x1_2 σ3 H locs ls 36 hV hw dX8_workedSet_36
  · replace hV := hV.2 hc
    refine x_lload_n X dX8_workedSet_14 rfl (lv_at hl 1 rfl) ?_
    refine x_lconst X 1 dX8_workedSet_15 rfl ?_
    refine x_aload_n X dX8_workedSet_16 rfl (lv_at hl 2 rfl) ?_
    refine x_getr X hw lm0 cX8 0 (by decide) rfl n_M_workedSet_1 n_M_workedSet_0 dX8_workedSet_17 ?_
    refine x_sipush X dX8_workedSet_20 (by decide) ?_
    refine x_iload_n X dX8_workedSet_23 rfl (lv_at hl 0 rfl) ?_
    refine x_iadd X dX8_workedSet_24 ?_
    obtain ⟨hi, hV⟩ := hV
    refine x_iald X hw lm1 rfl rfl hi dX8_workedSet_25 ?_
    refine x_lshl X dX8_workedSet_26 ?_
    refine x_lor X dX8_workedSet_27 ?_
    refine x_bl (fun x1_5 ex1_5 => ?_)
    replace hV := hV x1_5 ex1_5
    clear ex1_5
    refine x_lstore_n X [(1, lV x1_5), (3, iV x3_1), (0, .ref (ad 0))] dX8_workedSet_28 rfl hl (by decide) rfl (fun ls hl => ?_)
    refine x_iinc X (k := 1) (x3_1 + 1) [(3, iV (x3_1 + 1)), (1, lV x1_5), (0, .ref (ad 0))] dX8_workedSet_29 hl rfl rfl (by decide) rfl (fun ls hl => ?_)
    refine x_goto X 4 dX8_workedSet_32 (by decide) ?_
    exact hbk4 (x3_1 + 1) x1_5 σ3 hV H locs ls hw hl

theorem n_M_isFree_0 : Cond.fieldLink RX8 34 "LacePillowModel" "ahead" "[J" ∈ wsX8_isFree := by decide +kernel
theorem n_M_isFree_1 : ∀ w ∈ wsX80, w ∈ wsX8_isFree := by decide +kernel
theorem n_M_isFree_2 : Cond.constantLong RX8 139 (-1) ∈ wsX8_isFree := by decide +kernel
set_option maxHeartbeats 4000000 in
set_option maxRecDepth 100000 in
theorem c_M_isFree (l : Launch) (G : GT) (ad : Nat → Nat) (hI : Inj LM ad) (σ : St) (a1 : Int) {Q : Int → St → Prop} (hV : V_M_isFree σ a1 Q) : Met l yX8_isFree wsX8_isFree (rmx 1 23) (Pq vwCl G LM ad σ [.ref (ad 0), iV a1]) (Qz vwCl G LM ad Q) 0 0 (Ax LM ad) := by
  unfold V_M_isFree at hV
  refine x_metz (own := RX8) (by decide) rfl rfl (Nat.le_of_ble_eq_true rfl) hI ?_
  intro p e s m args below meth c R QQ X hR hret ls hl hw
  replace hl : lv_has ls 4 [(0, .ref (ad 0)), (1, iV a1)] := hl
  obtain ⟨H, hH⟩ : ∃ z, z = s.heap := ⟨_, rfl⟩
  obtain ⟨locs, hlo⟩ : ∃ z : List Loc, z = [] := ⟨_, rfl⟩
  rw [← hH, ← hlo]
  replace hw : Wx vwCl G LM ad s H locs σ := by rw [hH, hlo]; exact hw
  clear hH hlo
  refine x_aload_n X dX8_isFree_0 rfl (lv_at hl 0 rfl) ?_
  refine x_cvl X hw [] [] (c_M_workedSet l G ad hI σ hV) (cwV 0 X.2.2.2.2 gX8_isFree_X8_workedSet rfl rfl rfl hd_M_workedSet ⟨x_fr hR.1 rfl, x_fr hR.2 rfl⟩) lm0 cX8 rfl hl.1 rfl (Nat.le_of_ble_eq_true rfl) dX8_isFree_1 ⟨Nat.zero_le _, Nat.zero_le _⟩ (fun r2 σ1 H locs hV hw => ?_)
  refine x_lstore_n X [(2, lV r2), (0, .ref (ad 0)), (1, iV a1)] dX8_isFree_4 rfl hl (by decide) rfl (fun ls hl => ?_)
  refine x_lload_n X dX8_isFree_5 rfl (lv_at hl 0 rfl) ?_
  refine x_iload_n X dX8_isFree_6 rfl (lv_at hl 2 rfl) ?_
  refine x_lshr X dX8_isFree_7 ?_
  refine x_lconst X 1 dX8_isFree_8 rfl ?_
  refine x_land X dX8_isFree_9 ?_
  refine x_lconst X 0 dX8_isFree_10 rfl ?_
  refine x_lcmp_ne X rfl k64_0 36 dX8_isFree_11 dX8_isFree_12 (by decide) (fun hc => ?_) (fun hc => ?_)
  · replace hV := hV.1 hc
    refine x_iconst X dX8_isFree_36 ?_
    exact hret 0 σ1 H locs ls 37 (by decide) hV hw dX8_isFree_37
  · replace hV := hV.2 hc
    refine x_aload_n X dX8_isFree_15 rfl (lv_at hl 1 rfl) ?_
    refine x_getr X hw lm0 cX8 10 (by decide) rfl n_M_isFree_1 n_M_isFree_0 dX8_isFree_16 ?_
    refine x_iload_n X dX8_isFree_19 rfl (lv_at hl 2 rfl) ?_
    obtain ⟨hi, hV⟩ := hV
    refine x_lald X hw lm9 rfl rfl hi dX8_isFree_20 ?_
    refine x_lload_n X dX8_isFree_21 rfl (lv_at hl 0 rfl) ?_
    refine x_ldc2 X (-1) n_M_isFree_2 (by decide) dX8_isFree_22 ?_
    refine x_lxor X dX8_isFree_25 ?_
    refine x_land X dX8_isFree_26 ?_
    refine x_lconst X 0 dX8_isFree_27 rfl ?_
    refine x_lcmp_ne X rfl k64_0 36 dX8_isFree_28 dX8_isFree_29 (by decide) (fun hc => ?_) (fun hc => ?_)
    · replace hV := hV.1 hc
      refine x_iconst X dX8_isFree_36 ?_
      exact hret 0 σ1 H locs ls 37 (by decide) hV hw dX8_isFree_37
    · replace hV := hV.2 hc
      refine x_iconst X dX8_isFree_32 ?_
      refine x_goto X 37 dX8_isFree_33 (by decide) ?_
      exact hret 1 σ1 H locs ls 37 (by decide) hV hw dX8_isFree_37

theorem n_M_pairs_0 : Cond.constantLong RX8 141 (2) ∈ wsX8_pairs := by decide +kernel
theorem n_M_pairs_1 : Cond.constantLong RX8 143 (8) ∈ wsX8_pairs := by decide +kernel
theorem n_M_pairs_2 : Cond.fieldLink RX8 9 "LacePillowModel" "now" "[I" ∈ wsX8_pairs := by decide +kernel
theorem n_M_pairs_3 : ∀ w ∈ wsX80, w ∈ wsX8_pairs := by decide +kernel
theorem n_M_pairs_4 : Cond.constant RX8 149 (-1000000001) ∈ wsX8_pairs := by decide +kernel
set_option maxHeartbeats 4000000 in
set_option maxRecDepth 100000 in
theorem c_M_pairs (l : Launch) (G : GT) (ad : Nat → Nat) (hI : Inj LM ad) (σ : St) (a1 : Int) {Q : Int → St → Prop} (hV : V_M_pairs σ a1 Q) : Met l yX8_pairs wsX8_pairs (rmx 4 88) (Pq vwCl G LM ad σ [.ref (ad 0), iV a1]) (Qi vwCl G LM ad Q) 0 0 (Ax LM ad) := by
  unfold V_M_pairs at hV
  refine x_meti (own := RX8) (by decide) rfl rfl (Nat.le_of_ble_eq_true rfl) hI ?_
  intro p e s m args below meth c R QQ X hR hret ls hl hw
  replace hl : lv_has ls 4 [(0, .ref (ad 0)), (1, iV a1)] := hl
  obtain ⟨H, hH⟩ : ∃ z, z = s.heap := ⟨_, rfl⟩
  obtain ⟨locs, hlo⟩ : ∃ z : List Loc, z = [] := ⟨_, rfl⟩
  rw [← hH, ← hlo]
  replace hw : Wx vwCl G LM ad s H locs σ := by rw [hH, hlo]; exact hw
  clear hH hlo
  refine x_iload_n X dX8_pairs_0 rfl (lv_at hl 1 rfl) ?_
  refine x_i2l X dX8_pairs_1 ?_
  refine x_ldc2 X 2 n_M_pairs_0 (by decide) dX8_pairs_2 ?_
  refine x_ldc2 X 8 n_M_pairs_1 (by decide) dX8_pairs_5 ?_
  refine x_csz X hw [lV (i32 a1), lV 2, lV 8] [] (c_M_in l G ad hI σ (i32 a1) 2 8 hV) (va_cwS 3 X.2.2.2.2 gX8_pairs_X8_in rfl rfl rfl hd_M_in ⟨x_fr hR.1 rfl, x_fr hR.2 rfl⟩) rfl hl.1 rfl (Nat.le_of_ble_eq_true rfl) dX8_pairs_8 ⟨Nat.zero_le _, Nat.zero_le _⟩ (fun r2 σ1 H locs hr2 hV hw => ?_)
  refine x_if_ne X rfl 21 dX8_pairs_11 (by decide) (fun hc => ?_) (fun hc => ?_)
  · replace hV := hV.1 hc
    refine x_aload_n X dX8_pairs_21 rfl (lv_at hl 0 rfl) ?_
    refine x_getr X hw lm0 cX8 0 (by decide) rfl n_M_pairs_3 n_M_pairs_2 dX8_pairs_22 ?_
    refine x_iconst X dX8_pairs_25 ?_
    refine x_iald X hw lm1 k32_0 rfl (show (0 : Int) ≤ 0 ∧ (0 : Int) < 204 by decide) dX8_pairs_26 ?_
    refine x_bi (fun x2_3 ex2_3 => ?_)
    replace hV := hV x2_3 ex2_3
    clear ex2_3
    refine x_istore_n X [(2, iV x2_3), (0, .ref (ad 0)), (1, iV a1)] dX8_pairs_27 rfl hl (by decide) rfl (fun ls hl => ?_)
    refine x_aload_n X dX8_pairs_28 rfl (lv_at hl 1 rfl) ?_
    refine x_getr X hw lm0 cX8 0 (by decide) rfl n_M_pairs_3 n_M_pairs_2 dX8_pairs_29 ?_
    refine x_iconst X dX8_pairs_32 ?_
    refine x_iload_n X dX8_pairs_33 rfl (lv_at hl 2 rfl) ?_
    refine x_iast X hw lm1 k32_0 rfl (show (0 : Int) ≤ 0 ∧ (0 : Int) < 204 by decide) dX8_pairs_34 (fun H locs σ4 hs hw => ?_)
    replace hV := hV σ4 hs
    refine x_iconst X dX8_pairs_35 ?_
    refine x_istore_n X [(3, iV 0), (2, iV x2_3), (0, .ref (ad 0)), (1, iV a1)] dX8_pairs_36 rfl hl (by decide) rfl (fun ls hl => ?_)
    refine WL1.use (Gl := fun x3_5 σ6 => ∀ (H : Heap) (locs : List Loc) (ls : Array Slot), Wx vwCl G LM ad s H locs σ6 → lv_has ls 4 [(3, iV x3_5), (2, iV x2_3), (0, .ref (ad 0))] → W p l e R s m args below meth c H locs 0 0 QQ (F0 m 37 ls [])) ?_ hV H locs ls hw (lv_sub hl [0, 1, 2] rfl)
    clear hV hw hl H locs ls
    intro bk7 x3_5 σ6 hbk7 hV H locs ls hw hl
    refine x_iload_n X dX8_pairs_37 rfl (lv_at hl 0 rfl) ?_
    refine x_bipush X dX8_pairs_38 (by decide) ?_
    refine x_icmp_ge X rfl k32_84 58 dX8_pairs_40 (by decide) (fun hc => ?_) (fun hc => ?_)
    · replace hV := hV.1 hc
      refine x_aload_n X dX8_pairs_58 rfl (lv_at hl 2 rfl) ?_
      refine x_cvv X hw [] [] (c_M_anew l G ad hI σ6 hV) (cwV 0 X.2.2.2.2 gX8_pairs_X8_anew rfl rfl rfl hd_M_anew ⟨x_fr hR.1 rfl, x_fr hR.2 rfl⟩) lm0 cX8 rfl hl.1 rfl (Nat.le_of_ble_eq_true rfl) dX8_pairs_59 ⟨Nat.zero_le _, Nat.zero_le _⟩ (fun σ8 H locs hV hw => ?_)
      refine x_iload_n X dX8_pairs_62 rfl (lv_at hl 1 rfl) ?_
      exact hret x2_3 σ8 H locs ls 63 hV hw dX8_pairs_63
    · replace hV := hV.2 hc
      refine x_aload_n X dX8_pairs_43 rfl (lv_at hl 2 rfl) ?_
      refine x_getr X hw lm0 cX8 0 (by decide) rfl n_M_pairs_3 n_M_pairs_2 dX8_pairs_44 ?_
      refine x_iconst X dX8_pairs_47 ?_
      refine x_iload_n X dX8_pairs_48 rfl (lv_at hl 0 rfl) ?_
      refine x_iadd X dX8_pairs_49 ?_
      refine x_iconst X dX8_pairs_50 ?_
      obtain ⟨hi, hV⟩ := hV
      refine x_iast X hw lm1 rfl rfl hi dX8_pairs_51 (fun H locs σ9 hs hw => ?_)
      replace hV := hV σ9 hs
      refine x_iinc X (k := 0) (x3_5 + 1) [(3, iV (x3_5 + 1)), (2, iV x2_3), (0, .ref (ad 0))] dX8_pairs_52 hl rfl rfl (by decide) rfl (fun ls hl => ?_)
      refine x_goto X 37 dX8_pairs_55 (by decide) ?_
      exact hbk7 (x3_5 + 1) σ9 hV H locs ls hw hl
  · replace hV := hV.2 hc
    refine x_aload_n X dX8_pairs_14 rfl (lv_at hl 0 rfl) ?_
    refine x_ldc X (-1000000001) n_M_pairs_4 (by decide) dX8_pairs_15 ?_
    refine x_cvi X hw [iV (-1000000001)] [] (c_M_errs l G ad hI σ1 (-1000000001) hV) (cwV 1 X.2.2.2.2 gX8_pairs_X8_errs rfl rfl rfl hd_M_errs ⟨x_fr hR.1 rfl, x_fr hR.2 rfl⟩) lm0 cX8 rfl hl.1 rfl (Nat.le_of_ble_eq_true rfl) dX8_pairs_17 ⟨Nat.zero_le _, Nat.zero_le _⟩ (fun r11 σ10 H locs hV hw => ?_)
    exact hret r11 σ10 H locs ls 20 hV hw dX8_pairs_20

theorem n_M_isPlaceOf_0 : Cond.constantLong RX8 157 (11) ∈ wsX8_isPlaceOf := by decide +kernel
set_option maxHeartbeats 4000000 in
set_option maxRecDepth 100000 in
theorem c_M_isPlaceOf (l : Launch) (G : GT) (ad : Nat → Nat) (hI : Inj LM ad) (σ : St) (a1 : Int) (a2 : Int) {Q : Int → St → Prop} (hV : V_M_isPlaceOf σ a1 a2 Q) : Met l yX8_isPlaceOf wsX8_isPlaceOf (rmx 1 25) (Pq vwCl G LM ad σ [.ref (ad 0), iV a1, iV a2]) (Qz vwCl G LM ad Q) 0 0 (Ax LM ad) := by
  unfold V_M_isPlaceOf at hV
  refine x_metz (own := RX8) (by decide) rfl rfl (Nat.le_of_ble_eq_true rfl) hI ?_
  intro p e s m args below meth c R QQ X hR hret ls hl hw
  replace hl : lv_has ls 3 [(0, .ref (ad 0)), (1, iV a1), (2, iV a2)] := hl
  obtain ⟨H, hH⟩ : ∃ z, z = s.heap := ⟨_, rfl⟩
  obtain ⟨locs, hlo⟩ : ∃ z : List Loc, z = [] := ⟨_, rfl⟩
  rw [← hH, ← hlo]
  replace hw : Wx vwCl G LM ad s H locs σ := by rw [hH, hlo]; exact hw
  clear hH hlo
  refine x_iload_n X dX8_isPlaceOf_0 rfl (lv_at hl 1 rfl) ?_
  refine x_i2l X dX8_isPlaceOf_1 ?_
  refine x_lconst X 0 dX8_isPlaceOf_2 rfl ?_
  refine x_ldc2 X 11 n_M_isPlaceOf_0 (by decide) dX8_isPlaceOf_3 ?_
  refine x_csz X hw [lV (i32 a1), lV 0, lV 11] [] (c_M_in l G ad hI σ (i32 a1) 0 11 hV) (va_cwS 3 X.2.2.2.2 gX8_isPlaceOf_X8_in rfl rfl rfl hd_M_in ⟨x_fr hR.1 rfl, x_fr hR.2 rfl⟩) rfl hl.1 rfl (Nat.le_of_ble_eq_true rfl) dX8_isPlaceOf_6 ⟨Nat.zero_le _, Nat.zero_le _⟩ (fun r2 σ1 H locs hr2 hV hw => ?_)
  refine x_if_eq X rfl 32 dX8_isPlaceOf_9 (by decide) (fun hc => ?_) (fun hc => ?_)
  · replace hV := hV.1 hc
    refine x_iconst X dX8_isPlaceOf_32 ?_
    exact hret 0 σ1 H locs ls 33 (by decide) hV hw dX8_isPlaceOf_33
  · replace hV := hV.2 hc
    refine x_iload_n X dX8_isPlaceOf_12 rfl (lv_at hl 2 rfl) ?_
    refine x_i2l X dX8_isPlaceOf_13 ?_
    refine x_lconst X 0 dX8_isPlaceOf_14 rfl ?_
    refine x_aload_n X dX8_isPlaceOf_15 rfl (lv_at hl 0 rfl) ?_
    refine x_cvi X hw [] [lV 0, lV (i32 a2)] (c_M_gaps l G ad hI σ1 hV) (cwV 0 X.2.2.2.2 gX8_isPlaceOf_X8_gaps rfl rfl rfl hd_M_gaps ⟨x_fr hR.1 rfl, x_fr hR.2 rfl⟩) lm0 cX8 rfl hl.1 rfl (Nat.le_of_ble_eq_true rfl) dX8_isPlaceOf_16 ⟨Nat.zero_le _, Nat.zero_le _⟩ (fun r4 σ3 H locs hV hw => ?_)
    refine x_iconst X dX8_isPlaceOf_19 ?_
    refine x_isub X dX8_isPlaceOf_20 ?_
    refine x_i2l X dX8_isPlaceOf_21 ?_
    refine x_csz X hw [lV (i32 a2), lV 0, lV (i32 (r4 - 1))] [] (c_M_in l G ad hI σ3 (i32 a2) 0 (i32 (r4 - 1)) hV) (va_cwS 3 X.2.2.2.2 gX8_isPlaceOf_X8_in rfl rfl rfl hd_M_in ⟨x_fr hR.1 rfl, x_fr hR.2 rfl⟩) rfl hl.1 rfl (Nat.le_of_ble_eq_true rfl) dX8_isPlaceOf_22 ⟨Nat.zero_le _, Nat.zero_le _⟩ (fun r6 σ5 H locs hr6 hV hw => ?_)
    refine x_if_eq X rfl 32 dX8_isPlaceOf_25 (by decide) (fun hc => ?_) (fun hc => ?_)
    · replace hV := hV.1 hc
      refine x_iconst X dX8_isPlaceOf_32 ?_
      exact hret 0 σ5 H locs ls 33 (by decide) hV hw dX8_isPlaceOf_33
    · replace hV := hV.2 hc
      refine x_iconst X dX8_isPlaceOf_28 ?_
      refine x_goto X 33 dX8_isPlaceOf_29 (by decide) ?_
      exact hret 1 σ5 H locs ls 33 (by decide) hV hw dX8_isPlaceOf_33

theorem n_M_lay_0 : Cond.constant RX8 149 (-1000000001) ∈ wsX8_lay := by decide +kernel
theorem n_M_lay_1 : Cond.constantLong RX8 139 (-1) ∈ wsX8_lay := by decide +kernel
theorem n_M_lay_2 : Cond.constantLong RX8 163 (5) ∈ wsX8_lay := by decide +kernel
theorem n_M_lay_3 : Cond.fieldLink RX8 9 "LacePillowModel" "now" "[I" ∈ wsX8_lay := by decide +kernel
theorem n_M_lay_4 : ∀ w ∈ wsX80, w ∈ wsX8_lay := by decide +kernel
theorem n_M_lay_5 : Cond.constant RX8 165 (-1000000003) ∈ wsX8_lay := by decide +kernel
set_option maxHeartbeats 4000000 in
set_option maxRecDepth 100000 in
theorem c_M_lay (l : Launch) (G : GT) (ad : Nat → Nat) (hI : Inj LM ad) (σ : St) (a1 : Int) (a2 : Int) (a3 : Int) {Q : Int → St → Prop} (hV : V_M_lay σ a1 a2 a3 Q) : Met l yX8_lay wsX8_lay (rmx 4 88) (Pq vwCl G LM ad σ [.ref (ad 0), iV a1, iV a2, iV a3]) (Qi vwCl G LM ad Q) 0 0 (Ax LM ad) := by
  unfold V_M_lay at hV
  refine x_meti (own := RX8) (by decide) rfl rfl (Nat.le_of_ble_eq_true rfl) hI ?_
  intro p e s m args below meth c R QQ X hR hret ls hl hw
  replace hl : lv_has ls 7 [(0, .ref (ad 0)), (1, iV a1), (2, iV a2), (3, iV a3)] := hl
  obtain ⟨H, hH⟩ : ∃ z, z = s.heap := ⟨_, rfl⟩
  obtain ⟨locs, hlo⟩ : ∃ z : List Loc, z = [] := ⟨_, rfl⟩
  rw [← hH, ← hlo]
  replace hw : Wx vwCl G LM ad s H locs σ := by rw [hH, hlo]; exact hw
  clear hH hlo
  refine x_aload_n X dX8_lay_0 rfl (lv_at hl 0 rfl) ?_
  refine x_iload_n X dX8_lay_1 rfl (lv_at hl 1 rfl) ?_
  refine x_iload_n X dX8_lay_2 rfl (lv_at hl 2 rfl) ?_
  refine x_cvz X hw [iV a1, iV a2] [] (c_M_isPlaceOf l G ad hI σ a1 a2 hV) (cwV 2 X.2.2.2.2 gX8_lay_X8_isPlaceOf rfl rfl rfl hd_M_isPlaceOf ⟨x_fr hR.1 rfl, x_fr hR.2 rfl⟩) lm0 cX8 rfl hl.1 rfl (Nat.le_of_ble_eq_true rfl) dX8_lay_3 ⟨Nat.zero_le _, Nat.zero_le _⟩ (fun r2 σ1 H locs hr2 hV hw => ?_)
  refine x_if_eq X rfl 23 dX8_lay_6 (by decide) (fun hc => ?_) (fun hc => ?_)
  · replace hV := hV.1 hc
    refine x_aload_n X dX8_lay_23 rfl (lv_at hl 0 rfl) ?_
    refine x_ldc X (-1000000001) n_M_lay_0 (by decide) dX8_lay_24 ?_
    refine x_cvi X hw [iV (-1000000001)] [] (c_M_errs l G ad hI σ1 (-1000000001) hV) (cwV 1 X.2.2.2.2 gX8_lay_X8_errs rfl rfl rfl hd_M_errs ⟨x_fr hR.1 rfl, x_fr hR.2 rfl⟩) lm0 cX8 rfl hl.1 rfl (Nat.le_of_ble_eq_true rfl) dX8_lay_26 ⟨Nat.zero_le _, Nat.zero_le _⟩ (fun r4 σ3 H locs hV hw => ?_)
    exact hret r4 σ3 H locs ls 29 hV hw dX8_lay_29
  · replace hV := hV.2 hc
    refine x_iload_n X dX8_lay_9 rfl (lv_at hl 3 rfl) ?_
    refine x_i2l X dX8_lay_10 ?_
    refine x_ldc2 X (-1) n_M_lay_1 (by decide) dX8_lay_11 ?_
    refine x_ldc2 X 5 n_M_lay_2 (by decide) dX8_lay_14 ?_
    refine x_csz X hw [lV (i32 a3), lV (-1), lV 5] [] (c_M_in l G ad hI σ1 (i32 a3) (-1) 5 hV) (va_cwS 3 X.2.2.2.2 gX8_lay_X8_in rfl rfl rfl hd_M_in ⟨x_fr hR.1 rfl, x_fr hR.2 rfl⟩) rfl hl.1 rfl (Nat.le_of_ble_eq_true rfl) dX8_lay_17 ⟨Nat.zero_le _, Nat.zero_le _⟩ (fun r6 σ5 H locs hr6 hV hw => ?_)
    refine x_if_ne X rfl 30 dX8_lay_20 (by decide) (fun hc => ?_) (fun hc => ?_)
    · replace hV := hV.1 hc
      refine x_iload_n X dX8_lay_30 rfl (lv_at hl 2 rfl) ?_
      have hJ50 : ∀ (y0_7 : Int) (σ8 : St) (H : Heap) (locs : List Loc) (ls : Array Slot), J_M_lay_50 a1 a2 a3 Q y0_7 σ8 → Wx vwCl G LM ad s H locs σ8 → lv_has ls 7 [(0, .ref (ad 0)), (1, iV a1), (2, iV a2), (3, iV a3)] → W p l e R s m args below meth c H locs 0 0 QQ (F0 m 50 ls [iV y0_7]) := by
        intro y0_7 σ8 H locs ls hV hw hl
        unfold J_M_lay_50 at hV
        refine x_istore X [(4, iV y0_7), (0, .ref (ad 0)), (1, iV a1), (2, iV a2), (3, iV a3)] dX8_lay_50 hl (by decide) rfl (fun ls hl => ?_)
        refine x_iload_n X dX8_lay_52 rfl (lv_at hl 3 rfl) ?_
        refine x_aload_n X dX8_lay_53 rfl (lv_at hl 1 rfl) ?_
        refine x_cvi X hw [] [iV a2] (c_M_gaps l G ad hI σ8 hV) (cwV 0 X.2.2.2.2 gX8_lay_X8_gaps rfl rfl rfl hd_M_gaps ⟨x_fr hR.1 rfl, x_fr hR.2 rfl⟩) lm0 cX8 rfl hl.1 rfl (Nat.le_of_ble_eq_true rfl) dX8_lay_54 ⟨Nat.zero_le _, Nat.zero_le _⟩ (fun r10 σ9 H locs hV hw => ?_)
        refine x_iconst X dX8_lay_57 ?_
        refine x_isub X dX8_lay_58 ?_
        have hJ78 : ∀ (y0_11 : Int) (σ12 : St) (H : Heap) (locs : List Loc) (ls : Array Slot), J_M_lay_78 a1 a2 a3 Q y0_7 y0_11 σ12 → Wx vwCl G LM ad s H locs σ12 → lv_has ls 7 [(4, iV y0_7), (0, .ref (ad 0)), (1, iV a1), (2, iV a2), (3, iV a3)] → W p l e R s m args below meth c H locs 0 0 QQ (F0 m 78 ls [iV y0_11]) := by
          intro y0_11 σ12 H locs ls hV hw hl
          unfold J_M_lay_78 at hV
          refine x_istore X [(5, iV y0_11), (4, iV y0_7), (0, .ref (ad 0)), (1, iV a1), (2, iV a2), (3, iV a3)] dX8_lay_78 hl (by decide) rfl (fun ls hl => ?_)
          refine x_iload_n X dX8_lay_80 rfl (lv_at hl 5 rfl) ?_
          have hJ101 : ∀ (σ13 : St) (H : Heap) (locs : List Loc) (ls : Array Slot), J_M_lay_101 a1 a2 a3 Q σ13 → Wx vwCl G LM ad s H locs σ13 → lv_has ls 7 [(0, .ref (ad 0)), (1, iV a1), (2, iV a2), (3, iV a3)] → W p l e R s m args below meth c H locs 0 0 QQ (F0 m 101 ls []) := by
            intro σ13 H locs ls hV hw hl
            unfold J_M_lay_101 at hV
            refine x_aload_n X dX8_lay_101 rfl (lv_at hl 0 rfl) ?_
            refine x_iload_n X dX8_lay_102 rfl (lv_at hl 1 rfl) ?_
            refine x_iload_n X dX8_lay_103 rfl (lv_at hl 2 rfl) ?_
            refine x_cvi X hw [iV a1, iV a2] [] (c_M_held l G ad hI σ13 a1 a2 hV) (cwV 2 X.2.2.2.2 gX8_lay_X8_held rfl rfl rfl hd_M_held ⟨x_fr hR.1 rfl, x_fr hR.2 rfl⟩) lm0 cX8 rfl hl.1 rfl (Nat.le_of_ble_eq_true rfl) dX8_lay_104 ⟨Nat.zero_le _, Nat.zero_le _⟩ (fun r15 σ14 H locs hV hw => ?_)
            refine x_istore X [(6, iV r15), (0, .ref (ad 0)), (1, iV a1), (2, iV a2), (3, iV a3)] dX8_lay_107 hl (by decide) rfl (fun ls hl => ?_)
            refine x_aload_n X dX8_lay_109 rfl (lv_at hl 1 rfl) ?_
            refine x_getr X hw lm0 cX8 0 (by decide) rfl n_M_lay_4 n_M_lay_3 dX8_lay_110 ?_
            refine x_iconst X dX8_lay_113 ?_
            refine x_bipush X dX8_lay_114 (by decide) ?_
            refine x_iload_n X dX8_lay_116 rfl (lv_at hl 2 rfl) ?_
            refine x_imul X dX8_lay_117 ?_
            refine x_iadd X dX8_lay_118 ?_
            refine x_iload_n X dX8_lay_119 rfl (lv_at hl 3 rfl) ?_
            refine x_iadd X dX8_lay_120 ?_
            refine x_iload_n X dX8_lay_121 rfl (lv_at hl 4 rfl) ?_
            obtain ⟨hi, hV⟩ := hV
            refine x_iast X hw lm1 rfl rfl hi dX8_lay_122 (fun H locs σ16 hs hw => ?_)
            replace hV := hV σ16 hs
            refine x_aload_n X dX8_lay_123 rfl (lv_at hl 1 rfl) ?_
            refine x_cvv X hw [] [] (c_M_anew l G ad hI σ16 hV) (cwV 0 X.2.2.2.2 gX8_lay_X8_anew rfl rfl rfl hd_M_anew ⟨x_fr hR.1 rfl, x_fr hR.2 rfl⟩) lm0 cX8 rfl hl.1 rfl (Nat.le_of_ble_eq_true rfl) dX8_lay_124 ⟨Nat.zero_le _, Nat.zero_le _⟩ (fun σ17 H locs hV hw => ?_)
            refine x_iload X dX8_lay_127 (lv_at hl 0 rfl) ?_
            exact hret r15 σ17 H locs ls 129 hV hw dX8_lay_129
          refine x_if_lt X rfl 101 dX8_lay_81 (by decide) (fun hc => ?_) (fun hc => ?_)
          · replace hV := hV.1 hc
            exact hJ101 σ12 H locs ls hV hw (lv_sub hl [2, 3, 4, 5] rfl)
          · replace hV := hV.2 hc
            refine x_iload X dX8_lay_84 (lv_at hl 1 rfl) ?_
            refine x_if_ne X rfl 94 dX8_lay_86 (by decide) (fun hc => ?_) (fun hc => ?_)
            · replace hV := hV.1 hc
              refine x_aload_n X dX8_lay_94 rfl (lv_at hl 2 rfl) ?_
              refine x_ldc X (-1000000003) n_M_lay_5 (by decide) dX8_lay_95 ?_
              refine x_cvi X hw [iV (-1000000003)] [] (c_M_errs l G ad hI σ12 (-1000000003) hV) (cwV 1 X.2.2.2.2 gX8_lay_X8_errs rfl rfl rfl hd_M_errs ⟨x_fr hR.1 rfl, x_fr hR.2 rfl⟩) lm0 cX8 rfl hl.1 rfl (Nat.le_of_ble_eq_true rfl) dX8_lay_97 ⟨Nat.zero_le _, Nat.zero_le _⟩ (fun r19 σ18 H locs hV hw => ?_)
              exact hret r19 σ18 H locs ls 100 hV hw dX8_lay_100
            · replace hV := hV.2 hc
              refine x_iload X dX8_lay_89 (lv_at hl 0 rfl) ?_
              refine x_if_eq X rfl 101 dX8_lay_91 (by decide) (fun hc => ?_) (fun hc => ?_)
              · replace hV := hV.1 hc
                exact hJ101 σ12 H locs ls hV hw (lv_sub hl [2, 3, 4, 5] rfl)
              · replace hV := hV.2 hc
                refine x_aload_n X dX8_lay_94 rfl (lv_at hl 2 rfl) ?_
                refine x_ldc X (-1000000003) n_M_lay_5 (by decide) dX8_lay_95 ?_
                refine x_cvi X hw [iV (-1000000003)] [] (c_M_errs l G ad hI σ12 (-1000000003) hV) (cwV 1 X.2.2.2.2 gX8_lay_X8_errs rfl rfl rfl hd_M_errs ⟨x_fr hR.1 rfl, x_fr hR.2 rfl⟩) lm0 cX8 rfl hl.1 rfl (Nat.le_of_ble_eq_true rfl) dX8_lay_97 ⟨Nat.zero_le _, Nat.zero_le _⟩ (fun r21 σ20 H locs hV hw => ?_)
                exact hret r21 σ20 H locs ls 100 hV hw dX8_lay_100
        have hJ77 : ∀ (σ22 : St) (H : Heap) (locs : List Loc) (ls : Array Slot), J_M_lay_77 a1 a2 a3 Q y0_7 σ22 → Wx vwCl G LM ad s H locs σ22 → lv_has ls 7 [(4, iV y0_7), (0, .ref (ad 0)), (1, iV a1), (2, iV a2), (3, iV a3)] → W p l e R s m args below meth c H locs 0 0 QQ (F0 m 77 ls []) := by
          intro σ22 H locs ls hV hw hl
          unfold J_M_lay_77 at hV
          refine x_iconst X dX8_lay_77 ?_
          exact hJ78 0 σ22 H locs ls hV hw hl
        refine x_icmp_ge X rfl rfl 77 dX8_lay_59 (by decide) (fun hc => ?_) (fun hc => ?_)
        · replace hV := hV.1 hc
          exact hJ77 σ9 H locs ls hV hw hl
        · replace hV := hV.2 hc
          refine x_aload_n X dX8_lay_62 rfl (lv_at hl 1 rfl) ?_
          refine x_iload_n X dX8_lay_63 rfl (lv_at hl 2 rfl) ?_
          refine x_iload_n X dX8_lay_64 rfl (lv_at hl 3 rfl) ?_
          refine x_iconst X dX8_lay_65 ?_
          refine x_iadd X dX8_lay_66 ?_
          refine x_cvi X hw [iV a1, iV (a2 + 1)] [] (c_M_held l G ad hI σ9 a1 (a2 + 1) hV) (cwV 2 X.2.2.2.2 gX8_lay_X8_held rfl rfl rfl hd_M_held ⟨x_fr hR.1 rfl, x_fr hR.2 rfl⟩) lm0 cX8 rfl hl.1 rfl (Nat.le_of_ble_eq_true rfl) dX8_lay_67 ⟨Nat.zero_le _, Nat.zero_le _⟩ (fun r24 σ23 H locs hV hw => ?_)
          refine x_if_lt X rfl 77 dX8_lay_70 (by decide) (fun hc => ?_) (fun hc => ?_)
          · replace hV := hV.1 hc
            exact hJ77 σ23 H locs ls hV hw hl
          · replace hV := hV.2 hc
            refine x_iconst X dX8_lay_73 ?_
            refine x_goto X 78 dX8_lay_74 (by decide) ?_
            exact hJ78 1 σ23 H locs ls hV hw hl
      have hJ49 : ∀ (σ25 : St) (H : Heap) (locs : List Loc) (ls : Array Slot), J_M_lay_49 a1 a2 a3 Q σ25 → Wx vwCl G LM ad s H locs σ25 → lv_has ls 7 [(0, .ref (ad 0)), (1, iV a1), (2, iV a2), (3, iV a3)] → W p l e R s m args below meth c H locs 0 0 QQ (F0 m 49 ls []) := by
        intro σ25 H locs ls hV hw hl
        unfold J_M_lay_49 at hV
        refine x_iconst X dX8_lay_49 ?_
        exact hJ50 0 σ25 H locs ls hV hw hl
      refine x_if_le X rfl 49 dX8_lay_31 (by decide) (fun hc => ?_) (fun hc => ?_)
      · replace hV := hV.1 hc
        exact hJ49 σ5 H locs ls hV hw hl
      · replace hV := hV.2 hc
        refine x_aload_n X dX8_lay_34 rfl (lv_at hl 0 rfl) ?_
        refine x_iload_n X dX8_lay_35 rfl (lv_at hl 1 rfl) ?_
        refine x_iload_n X dX8_lay_36 rfl (lv_at hl 2 rfl) ?_
        refine x_iconst X dX8_lay_37 ?_
        refine x_isub X dX8_lay_38 ?_
        refine x_cvi X hw [iV a1, iV (a2 - 1)] [] (c_M_held l G ad hI σ5 a1 (a2 - 1) hV) (cwV 2 X.2.2.2.2 gX8_lay_X8_held rfl rfl rfl hd_M_held ⟨x_fr hR.1 rfl, x_fr hR.2 rfl⟩) lm0 cX8 rfl hl.1 rfl (Nat.le_of_ble_eq_true rfl) dX8_lay_39 ⟨Nat.zero_le _, Nat.zero_le _⟩ (fun r27 σ26 H locs hV hw => ?_)
        refine x_if_lt X rfl 49 dX8_lay_42 (by decide) (fun hc => ?_) (fun hc => ?_)
        · replace hV := hV.1 hc
          exact hJ49 σ26 H locs ls hV hw hl
        · replace hV := hV.2 hc
          refine x_iconst X dX8_lay_45 ?_
          refine x_goto X 50 dX8_lay_46 (by decide) ?_
          exact hJ50 1 σ26 H locs ls hV hw hl
    · replace hV := hV.2 hc
      refine x_aload_n X dX8_lay_23 rfl (lv_at hl 0 rfl) ?_
      refine x_ldc X (-1000000001) n_M_lay_0 (by decide) dX8_lay_24 ?_
      refine x_cvi X hw [iV (-1000000001)] [] (c_M_errs l G ad hI σ5 (-1000000001) hV) (cwV 1 X.2.2.2.2 gX8_lay_X8_errs rfl rfl rfl hd_M_errs ⟨x_fr hR.1 rfl, x_fr hR.2 rfl⟩) lm0 cX8 rfl hl.1 rfl (Nat.le_of_ble_eq_true rfl) dX8_lay_26 ⟨Nat.zero_le _, Nat.zero_le _⟩ (fun r29 σ28 H locs hV hw => ?_)
      exact hret r29 σ28 H locs ls 29 hV hw dX8_lay_29

theorem n_M_look_0 : Cond.constant RX8 149 (-1000000001) ∈ wsX8_look := by decide +kernel
set_option maxHeartbeats 4000000 in
set_option maxRecDepth 100000 in
theorem c_M_look (l : Launch) (G : GT) (ad : Nat → Nat) (hI : Inj LM ad) (σ : St) (a1 : Int) (a2 : Int) {Q : Int → St → Prop} (hV : V_M_look σ a1 a2 Q) : Met l yX8_look wsX8_look (rmx 2 47) (Pq vwCl G LM ad σ [.ref (ad 0), iV a1, iV a2]) (Qi vwCl G LM ad Q) 0 0 (Ax LM ad) := by
  unfold V_M_look at hV
  refine x_meti (own := RX8) (by decide) rfl rfl (Nat.le_of_ble_eq_true rfl) hI ?_
  intro p e s m args below meth c R QQ X hR hret ls hl hw
  replace hl : lv_has ls 3 [(0, .ref (ad 0)), (1, iV a1), (2, iV a2)] := hl
  obtain ⟨H, hH⟩ : ∃ z, z = s.heap := ⟨_, rfl⟩
  obtain ⟨locs, hlo⟩ : ∃ z : List Loc, z = [] := ⟨_, rfl⟩
  rw [← hH, ← hlo]
  replace hw : Wx vwCl G LM ad s H locs σ := by rw [hH, hlo]; exact hw
  clear hH hlo
  refine x_aload_n X dX8_look_0 rfl (lv_at hl 0 rfl) ?_
  refine x_iload_n X dX8_look_1 rfl (lv_at hl 1 rfl) ?_
  refine x_iload_n X dX8_look_2 rfl (lv_at hl 2 rfl) ?_
  refine x_cvz X hw [iV a1, iV a2] [] (c_M_isPlaceOf l G ad hI σ a1 a2 hV) (cwV 2 X.2.2.2.2 gX8_look_X8_isPlaceOf rfl rfl rfl hd_M_isPlaceOf ⟨x_fr hR.1 rfl, x_fr hR.2 rfl⟩) lm0 cX8 rfl hl.1 rfl (Nat.le_of_ble_eq_true rfl) dX8_look_3 ⟨Nat.zero_le _, Nat.zero_le _⟩ (fun r2 σ1 H locs hr2 hV hw => ?_)
  refine x_if_eq X rfl 18 dX8_look_6 (by decide) (fun hc => ?_) (fun hc => ?_)
  · replace hV := hV.1 hc
    refine x_aload_n X dX8_look_18 rfl (lv_at hl 0 rfl) ?_
    refine x_ldc X (-1000000001) n_M_look_0 (by decide) dX8_look_19 ?_
    refine x_cvi X hw [iV (-1000000001)] [] (c_M_errs l G ad hI σ1 (-1000000001) hV) (cwV 1 X.2.2.2.2 gX8_look_X8_errs rfl rfl rfl hd_M_errs ⟨x_fr hR.1 rfl, x_fr hR.2 rfl⟩) lm0 cX8 rfl hl.1 rfl (Nat.le_of_ble_eq_true rfl) dX8_look_21 ⟨Nat.zero_le _, Nat.zero_le _⟩ (fun r4 σ3 H locs hV hw => ?_)
    exact hret r4 σ3 H locs ls 24 hV hw dX8_look_24
  · replace hV := hV.2 hc
    refine x_aload_n X dX8_look_9 rfl (lv_at hl 0 rfl) ?_
    refine x_iload_n X dX8_look_10 rfl (lv_at hl 1 rfl) ?_
    refine x_iload_n X dX8_look_11 rfl (lv_at hl 2 rfl) ?_
    refine x_cvi X hw [iV a1, iV a2] [] (c_M_held l G ad hI σ1 a1 a2 hV) (cwV 2 X.2.2.2.2 gX8_look_X8_held rfl rfl rfl hd_M_held ⟨x_fr hR.1 rfl, x_fr hR.2 rfl⟩) lm0 cX8 rfl hl.1 rfl (Nat.le_of_ble_eq_true rfl) dX8_look_12 ⟨Nat.zero_le _, Nat.zero_le _⟩ (fun r6 σ5 H locs hV hw => ?_)
    refine x_goto X 24 dX8_look_15 (by decide) ?_
    exact hret r6 σ5 H locs ls 24 hV hw dX8_look_24

theorem n_M_feed_0 : Cond.constantLong RX8 166 (255) ∈ wsX8_feed := by decide +kernel
theorem n_M_feed_1 : Cond.fieldLink RX8 168 "LacePillowModel" "taped" "I" ∈ wsX8_feed := by decide +kernel
theorem n_M_feed_2 : ∀ w ∈ wsX80, w ∈ wsX8_feed := by decide +kernel
theorem n_M_feed_3 : Cond.fieldLink RX8 38 "LacePillowModel" "tape" "[I" ∈ wsX8_feed := by decide +kernel
theorem n_M_feed_4 : Cond.constant RX8 171 (-1000000004) ∈ wsX8_feed := by decide +kernel
theorem n_M_feed_5 : Cond.constant RX8 149 (-1000000001) ∈ wsX8_feed := by decide +kernel
set_option maxHeartbeats 4000000 in
set_option maxRecDepth 100000 in
theorem c_M_feed (l : Launch) (G : GT) (ad : Nat → Nat) (hI : Inj LM ad) (σ : St) (a1 : Int) {Q : Int → St → Prop} (hV : V_M_feed σ a1 Q) : Met l yX8_feed wsX8_feed (rmx 1 25) (Pq vwCl G LM ad σ [.ref (ad 0), iV a1]) (Qi vwCl G LM ad Q) 0 0 (Ax LM ad) := by
  unfold V_M_feed at hV
  refine x_meti (own := RX8) (by decide) rfl rfl (Nat.le_of_ble_eq_true rfl) hI ?_
  intro p e s m args below meth c R QQ X hR hret ls hl hw
  replace hl : lv_has ls 2 [(0, .ref (ad 0)), (1, iV a1)] := hl
  obtain ⟨H, hH⟩ : ∃ z, z = s.heap := ⟨_, rfl⟩
  obtain ⟨locs, hlo⟩ : ∃ z : List Loc, z = [] := ⟨_, rfl⟩
  rw [← hH, ← hlo]
  replace hw : Wx vwCl G LM ad s H locs σ := by rw [hH, hlo]; exact hw
  clear hH hlo
  refine x_iload_n X dX8_feed_0 rfl (lv_at hl 1 rfl) ?_
  refine x_i2l X dX8_feed_1 ?_
  refine x_lconst X 0 dX8_feed_2 rfl ?_
  refine x_ldc2 X 255 n_M_feed_0 (by decide) dX8_feed_3 ?_
  refine x_csz X hw [lV (i32 a1), lV 0, lV 255] [] (c_M_in l G ad hI σ (i32 a1) 0 255 hV) (va_cwS 3 X.2.2.2.2 gX8_feed_X8_in rfl rfl rfl hd_M_in ⟨x_fr hR.1 rfl, x_fr hR.2 rfl⟩) rfl hl.1 rfl (Nat.le_of_ble_eq_true rfl) dX8_feed_6 ⟨Nat.zero_le _, Nat.zero_le _⟩ (fun r2 σ1 H locs hr2 hV hw => ?_)
  refine x_if_ne X rfl 19 dX8_feed_9 (by decide) (fun hc => ?_) (fun hc => ?_)
  · replace hV := hV.1 hc
    refine x_aload_n X dX8_feed_19 rfl (lv_at hl 0 rfl) ?_
    refine x_geti X hw lm0 cX8 12 (by decide) rfl n_M_feed_2 n_M_feed_1 dX8_feed_20 ?_
    refine x_bipush X dX8_feed_23 (by decide) ?_
    refine x_icmp_ne X rfl k32_120 35 dX8_feed_25 (by decide) (fun hc => ?_) (fun hc => ?_)
    · replace hV := hV.1 hc
      refine x_aload_n X dX8_feed_35 rfl (lv_at hl 0 rfl) ?_
      refine x_getr X hw lm0 cX8 11 (by decide) rfl n_M_feed_2 n_M_feed_3 dX8_feed_36 ?_
      refine x_aload_n X dX8_feed_39 rfl (lv_at hl 0 rfl) ?_
      refine x_geti X hw lm0 cX8 12 (by decide) rfl n_M_feed_2 n_M_feed_1 dX8_feed_40 ?_
      refine x_iload_n X dX8_feed_43 rfl (lv_at hl 1 rfl) ?_
      obtain ⟨hi, hV⟩ := hV
      refine x_iast X hw lm10 rfl rfl hi dX8_feed_44 (fun H locs σ3 hs hw => ?_)
      replace hV := hV σ3 hs
      refine x_aload_n X dX8_feed_45 rfl (lv_at hl 0 rfl) ?_
      refine x_dup X dX8_feed_46 rfl ?_
      refine x_geti X hw lm0 cX8 12 (by decide) rfl n_M_feed_2 n_M_feed_1 dX8_feed_47 ?_
      refine x_iconst X dX8_feed_50 ?_
      refine x_iadd X dX8_feed_51 ?_
      refine x_puti X hw lm0 cX8 12 (by decide) rfl n_M_feed_2 n_M_feed_1 tyX8 tyX8_ok nmX8 rfl rfl rfl dX8_feed_52 (fun H locs σ4 hs hw => ?_)
      replace hV := hV σ4 hs
      refine x_aload_n X dX8_feed_55 rfl (lv_at hl 0 rfl) ?_
      refine x_geti X hw lm0 cX8 12 (by decide) rfl n_M_feed_2 n_M_feed_1 dX8_feed_56 ?_
      exact hret (σ4 0 12) σ4 H locs ls 59 hV hw dX8_feed_59
    · replace hV := hV.2 hc
      refine x_aload_n X dX8_feed_28 rfl (lv_at hl 0 rfl) ?_
      refine x_ldc X (-1000000004) n_M_feed_4 (by decide) dX8_feed_29 ?_
      refine x_cvi X hw [iV (-1000000004)] [] (c_M_errs l G ad hI σ1 (-1000000004) hV) (cwV 1 X.2.2.2.2 gX8_feed_X8_errs rfl rfl rfl hd_M_errs ⟨x_fr hR.1 rfl, x_fr hR.2 rfl⟩) lm0 cX8 rfl hl.1 rfl (Nat.le_of_ble_eq_true rfl) dX8_feed_31 ⟨Nat.zero_le _, Nat.zero_le _⟩ (fun r6 σ5 H locs hV hw => ?_)
      exact hret r6 σ5 H locs ls 34 hV hw dX8_feed_34
  · replace hV := hV.2 hc
    refine x_aload_n X dX8_feed_12 rfl (lv_at hl 0 rfl) ?_
    refine x_ldc X (-1000000001) n_M_feed_5 (by decide) dX8_feed_13 ?_
    refine x_cvi X hw [iV (-1000000001)] [] (c_M_errs l G ad hI σ1 (-1000000001) hV) (cwV 1 X.2.2.2.2 gX8_feed_X8_errs rfl rfl rfl hd_M_errs ⟨x_fr hR.1 rfl, x_fr hR.2 rfl⟩) lm0 cX8 rfl hl.1 rfl (Nat.le_of_ble_eq_true rfl) dX8_feed_15 ⟨Nat.zero_le _, Nat.zero_le _⟩ (fun r8 σ7 H locs hV hw => ?_)
    exact hret r8 σ7 H locs ls 18 hV hw dX8_feed_18

theorem n_M_prickingFault_0 : Cond.fieldLink RX8 168 "LacePillowModel" "taped" "I" ∈ wsX8_prickingFault := by decide +kernel
theorem n_M_prickingFault_1 : ∀ w ∈ wsX80, w ∈ wsX8_prickingFault := by decide +kernel
theorem n_M_prickingFault_2 : Cond.fieldLink RX8 38 "LacePillowModel" "tape" "[I" ∈ wsX8_prickingFault := by decide +kernel
theorem n_M_prickingFault_3 : Cond.constantLong RX8 172 (97) ∈ wsX8_prickingFault := by decide +kernel
theorem n_M_prickingFault_4 : Cond.constantLong RX8 174 (102) ∈ wsX8_prickingFault := by decide +kernel
set_option maxHeartbeats 4000000 in
set_option maxRecDepth 100000 in
theorem c_M_prickingFault (l : Launch) (G : GT) (ad : Nat → Nat) (hI : Inj LM ad) (σ : St) {Q : Int → St → Prop} (hV : V_M_prickingFault σ Q) : Met l yX8_prickingFault wsX8_prickingFault (rmx 1 25) (Pq vwCl G LM ad σ [.ref (ad 0)]) (Qi vwCl G LM ad Q) 0 0 (Ax LM ad) := by
  unfold V_M_prickingFault at hV
  refine x_meti (own := RX8) (by decide) rfl rfl (Nat.le_of_ble_eq_true rfl) hI ?_
  intro p e s m args below meth c R QQ X hR hret ls hl hw
  replace hl : lv_has ls 7 [(0, .ref (ad 0))] := hl
  obtain ⟨H, hH⟩ : ∃ z, z = s.heap := ⟨_, rfl⟩
  obtain ⟨locs, hlo⟩ : ∃ z : List Loc, z = [] := ⟨_, rfl⟩
  rw [← hH, ← hlo]
  replace hw : Wx vwCl G LM ad s H locs σ := by rw [hH, hlo]; exact hw
  clear hH hlo
  refine x_aload_n X dX8_prickingFault_0 rfl (lv_at hl 0 rfl) ?_
  refine x_cvi X hw [] [] (c_M_gaps l G ad hI σ hV) (cwV 0 X.2.2.2.2 gX8_prickingFault_X8_gaps rfl rfl rfl hd_M_gaps ⟨x_fr hR.1 rfl, x_fr hR.2 rfl⟩) lm0 cX8 rfl hl.1 rfl (Nat.le_of_ble_eq_true rfl) dX8_prickingFault_1 ⟨Nat.zero_le _, Nat.zero_le _⟩ (fun r2 σ1 H locs hV hw => ?_)
  refine x_iconst X dX8_prickingFault_4 ?_
  refine x_iadd X dX8_prickingFault_5 ?_
  refine x_bi (fun x1_3 ex1_3 => ?_)
  replace hV := hV x1_3 ex1_3
  clear ex1_3
  refine x_istore_n X [(1, iV x1_3), (0, .ref (ad 0))] dX8_prickingFault_6 rfl hl (by decide) rfl (fun ls hl => ?_)
  refine x_iconst X dX8_prickingFault_7 ?_
  refine x_istore_n X [(2, iV 0), (1, iV x1_3), (0, .ref (ad 0))] dX8_prickingFault_8 rfl hl (by decide) rfl (fun ls hl => ?_)
  refine WL1.use (Gl := fun x2_4 σ5 => ∀ (H : Heap) (locs : List Loc) (ls : Array Slot), Wx vwCl G LM ad s H locs σ5 → lv_has ls 7 [(2, iV x2_4), (1, iV x1_3), (0, .ref (ad 0))] → W p l e R s m args below meth c H locs 0 0 QQ (F0 m 9 ls [])) ?_ hV H locs ls hw hl
  clear hV hw hl H locs ls
  intro bk6 x2_4 σ5 hbk6 hV H locs ls hw hl
  refine x_iload_n X dX8_prickingFault_9 rfl (lv_at hl 0 rfl) ?_
  refine x_aload_n X dX8_prickingFault_10 rfl (lv_at hl 2 rfl) ?_
  refine x_geti X hw lm0 cX8 12 (by decide) rfl n_M_prickingFault_1 n_M_prickingFault_0 dX8_prickingFault_11 ?_
  refine x_icmp_ge X rfl rfl 136 dX8_prickingFault_14 (by decide) (fun hc => ?_) (fun hc => ?_)
  · replace hV := hV.1 hc
    refine x_aload_n X dX8_prickingFault_136 rfl (lv_at hl 2 rfl) ?_
    refine x_geti X hw lm0 cX8 12 (by decide) rfl n_M_prickingFault_1 n_M_prickingFault_0 dX8_prickingFault_137 ?_
    refine x_iload_n X dX8_prickingFault_140 rfl (lv_at hl 1 rfl) ?_
    obtain ⟨hn, hV⟩ := hV
    refine x_irem X dX8_prickingFault_141 hn ?_
    refine x_iload_n X dX8_prickingFault_142 rfl (lv_at hl 1 rfl) ?_
    refine x_iconst X dX8_prickingFault_143 ?_
    refine x_isub X dX8_prickingFault_144 ?_
    refine x_icmp_ne X rfl rfl 152 dX8_prickingFault_145 (by decide) (fun hc => ?_) (fun hc => ?_)
    · replace hV := hV.1 hc
      refine x_aload_n X dX8_prickingFault_152 rfl (lv_at hl 2 rfl) ?_
      refine x_geti X hw lm0 cX8 12 (by decide) rfl n_M_prickingFault_1 n_M_prickingFault_0 dX8_prickingFault_153 ?_
      exact hret (σ5 0 12) σ5 H locs ls 156 hV hw dX8_prickingFault_156
    · replace hV := hV.2 hc
      refine x_iconst X dX8_prickingFault_148 ?_
      refine x_goto X 156 dX8_prickingFault_149 (by decide) ?_
      exact hret (-1) σ5 H locs ls 156 hV hw dX8_prickingFault_156
  · replace hV := hV.2 hc
    refine x_aload_n X dX8_prickingFault_17 rfl (lv_at hl 2 rfl) ?_
    refine x_getr X hw lm0 cX8 11 (by decide) rfl n_M_prickingFault_1 n_M_prickingFault_2 dX8_prickingFault_18 ?_
    refine x_iload_n X dX8_prickingFault_21 rfl (lv_at hl 0 rfl) ?_
    obtain ⟨hi, hV⟩ := hV
    refine x_iald X hw lm10 rfl rfl hi dX8_prickingFault_22 ?_
    refine x_bi (fun x3_7 ex3_7 => ?_)
    replace hV := hV x3_7 ex3_7
    clear ex3_7
    refine x_istore_n X [(3, iV x3_7), (2, iV x2_4), (1, iV x1_3), (0, .ref (ad 0))] dX8_prickingFault_23 rfl hl (by decide) rfl (fun ls hl => ?_)
    refine x_iload_n X dX8_prickingFault_24 rfl (lv_at hl 0 rfl) ?_
    refine x_i2l X dX8_prickingFault_25 ?_
    refine x_ldc2 X 97 n_M_prickingFault_3 (by decide) dX8_prickingFault_26 ?_
    refine x_ldc2 X 102 n_M_prickingFault_4 (by decide) dX8_prickingFault_29 ?_
    refine x_csz X hw [lV (i32 x3_7), lV 97, lV 102] [] (c_M_in l G ad hI σ5 (i32 x3_7) 97 102 hV) (va_cwS 3 X.2.2.2.2 gX8_prickingFault_X8_in rfl rfl rfl hd_M_in ⟨x_fr hR.1 rfl, x_fr hR.2 rfl⟩) rfl hl.1 rfl (Nat.le_of_ble_eq_true rfl) dX8_prickingFault_32 ⟨Nat.zero_le _, Nat.zero_le _⟩ (fun r9 σ8 H locs hr9 hV hw => ?_)
    refine x_istore X [(4, iV r9), (3, iV x3_7), (2, iV x2_4), (1, iV x1_3), (0, .ref (ad 0))] dX8_prickingFault_35 hl (by decide) rfl (fun ls hl => ?_)
    refine x_iload_n X dX8_prickingFault_37 rfl (lv_at hl 2 rfl) ?_
    have hJ67 : ∀ (y0_10 : Int) (σ11 : St) (H : Heap) (locs : List Loc) (ls : Array Slot), J_M_prickingFault_67 Q x1_3 x2_4 bk6 x3_7 r9 y0_10 σ11 → Wx vwCl G LM ad s H locs σ11 → lv_has ls 7 [(4, iV r9), (3, iV x3_7), (2, iV x2_4), (1, iV x1_3), (0, .ref (ad 0))] → W p l e R s m args below meth c H locs 0 0 QQ (F0 m 67 ls [iV y0_10]) := by
      intro y0_10 σ11 H locs ls hV hw hl
      unfold J_M_prickingFault_67 at hV
      refine x_istore X [(5, iV y0_10), (4, iV r9), (3, iV x3_7), (2, iV x2_4), (1, iV x1_3), (0, .ref (ad 0))] dX8_prickingFault_67 hl (by decide) rfl (fun ls hl => ?_)
      refine x_iload_n X dX8_prickingFault_69 rfl (lv_at hl 3 rfl) ?_
      refine x_iload_n X dX8_prickingFault_70 rfl (lv_at hl 4 rfl) ?_
      obtain ⟨hn, hV⟩ := hV
      refine x_irem X dX8_prickingFault_71 hn ?_
      refine x_iload_n X dX8_prickingFault_72 rfl (lv_at hl 4 rfl) ?_
      refine x_iconst X dX8_prickingFault_73 ?_
      refine x_isub X dX8_prickingFault_74 ?_
      refine x_icmp_ne X rfl rfl 100 dX8_prickingFault_75 (by decide) (fun hc => ?_) (fun hc => ?_)
      · replace hV := hV.1 hc
        refine x_iload_n X dX8_prickingFault_100 rfl (lv_at hl 2 rfl) ?_
        refine x_bipush X dX8_prickingFault_101 (by decide) ?_
        have hJ116 : ∀ (σ12 : St) (H : Heap) (locs : List Loc) (ls : Array Slot), J_M_prickingFault_116 Q x2_4 bk6 σ12 → Wx vwCl G LM ad s H locs σ12 → lv_has ls 7 [(2, iV x2_4), (1, iV x1_3), (0, .ref (ad 0))] → W p l e R s m args below meth c H locs 0 0 QQ (F0 m 116 ls []) := by
          intro σ12 H locs ls hV hw hl
          unfold J_M_prickingFault_116 at hV
          refine x_iconst X dX8_prickingFault_116 ?_
          refine x_goto X 121 dX8_prickingFault_117 (by decide) ?_
          refine x_istore X [(6, iV 1), (2, iV x2_4), (1, iV x1_3), (0, .ref (ad 0))] dX8_prickingFault_121 hl (by decide) rfl (fun ls hl => ?_)
          refine x_iload X dX8_prickingFault_123 (lv_at hl 0 rfl) ?_
          refine x_if_ne X k32_1 130 dX8_prickingFault_125 (by decide) (fun hc => ?_) (fun hc => ?_)
          · replace hV := hV.1 hc
            refine x_iinc X (k := 1) (x2_4 + 1) [(2, iV (x2_4 + 1)), (6, iV 1), (1, iV x1_3), (0, .ref (ad 0))] dX8_prickingFault_130 hl rfl rfl (by decide) rfl (fun ls hl => ?_)
            refine x_goto X 9 dX8_prickingFault_133 (by decide) ?_
            exact hbk6 (x2_4 + 1) σ12 hV H locs ls hw (lv_sub hl [0, 2, 3] rfl)
          · replace hV := hV.2 hc
            refine x_iload_n X dX8_prickingFault_128 rfl (lv_at hl 1 rfl) ?_
            exact hret x2_4 σ12 H locs ls 129 hV hw dX8_prickingFault_129
        refine x_icmp_eq X rfl k32_46 116 dX8_prickingFault_103 (by decide) (fun hc => ?_) (fun hc => ?_)
        · replace hV := hV.1 hc
          exact hJ116 σ11 H locs ls hV hw (lv_sub hl [3, 4, 5] rfl)
        · replace hV := hV.2 hc
          refine x_iload X dX8_prickingFault_106 (lv_at hl 1 rfl) ?_
          refine x_if_eq X rfl 120 dX8_prickingFault_108 (by decide) (fun hc => ?_) (fun hc => ?_)
          · replace hV := hV.1 hc
            refine x_iconst X dX8_prickingFault_120 ?_
            refine x_istore X [(6, iV 0), (5, iV y0_10), (4, iV r9), (3, iV x3_7), (2, iV x2_4), (1, iV x1_3), (0, .ref (ad 0))] dX8_prickingFault_121 hl (by decide) rfl (fun ls hl => ?_)
            refine x_iload X dX8_prickingFault_123 (lv_at hl 0 rfl) ?_
            refine x_if_ne X k32_0 130 dX8_prickingFault_125 (by decide) (fun hc => ?_) (fun hc => ?_)
            · replace hV := hV.1 hc
              refine x_iinc X (k := 4) (x2_4 + 1) [(2, iV (x2_4 + 1)), (6, iV 0), (5, iV y0_10), (4, iV r9), (3, iV x3_7), (1, iV x1_3), (0, .ref (ad 0))] dX8_prickingFault_130 hl rfl rfl (by decide) rfl (fun ls hl => ?_)
              refine x_goto X 9 dX8_prickingFault_133 (by decide) ?_
              exact hbk6 (x2_4 + 1) σ11 hV H locs ls hw (lv_sub hl [0, 5, 6] rfl)
            · replace hV := hV.2 hc
              refine x_iload_n X dX8_prickingFault_128 rfl (lv_at hl 4 rfl) ?_
              exact hret x2_4 σ11 H locs ls 129 hV hw dX8_prickingFault_129
          · replace hV := hV.2 hc
            refine x_iload X dX8_prickingFault_111 (lv_at hl 0 rfl) ?_
            refine x_if_ne X rfl 120 dX8_prickingFault_113 (by decide) (fun hc => ?_) (fun hc => ?_)
            · replace hV := hV.1 hc
              refine x_iconst X dX8_prickingFault_120 ?_
              refine x_istore X [(6, iV 0), (5, iV y0_10), (4, iV r9), (3, iV x3_7), (2, iV x2_4), (1, iV x1_3), (0, .ref (ad 0))] dX8_prickingFault_121 hl (by decide) rfl (fun ls hl => ?_)
              refine x_iload X dX8_prickingFault_123 (lv_at hl 0 rfl) ?_
              refine x_if_ne X k32_0 130 dX8_prickingFault_125 (by decide) (fun hc => ?_) (fun hc => ?_)
              · replace hV := hV.1 hc
                refine x_iinc X (k := 4) (x2_4 + 1) [(2, iV (x2_4 + 1)), (6, iV 0), (5, iV y0_10), (4, iV r9), (3, iV x3_7), (1, iV x1_3), (0, .ref (ad 0))] dX8_prickingFault_130 hl rfl rfl (by decide) rfl (fun ls hl => ?_)
                refine x_goto X 9 dX8_prickingFault_133 (by decide) ?_
                exact hbk6 (x2_4 + 1) σ11 hV H locs ls hw (lv_sub hl [0, 5, 6] rfl)
              · replace hV := hV.2 hc
                refine x_iload_n X dX8_prickingFault_128 rfl (lv_at hl 4 rfl) ?_
                exact hret x2_4 σ11 H locs ls 129 hV hw dX8_prickingFault_129
            · replace hV := hV.2 hc
              exact hJ116 σ11 H locs ls hV hw (lv_sub hl [3, 4, 5] rfl)
      · replace hV := hV.2 hc
        refine x_iload_n X dX8_prickingFault_78 rfl (lv_at hl 2 rfl) ?_
        refine x_bipush X dX8_prickingFault_79 (by decide) ?_
        have hJ96 : ∀ (σ13 : St) (H : Heap) (locs : List Loc) (ls : Array Slot), J_M_prickingFault_96 Q x2_4 bk6 σ13 → Wx vwCl G LM ad s H locs σ13 → lv_has ls 7 [(2, iV x2_4), (1, iV x1_3), (0, .ref (ad 0))] → W p l e R s m args below meth c H locs 0 0 QQ (F0 m 96 ls []) := by
          intro σ13 H locs ls hV hw hl
          unfold J_M_prickingFault_96 at hV
          refine x_iconst X dX8_prickingFault_96 ?_
          refine x_goto X 121 dX8_prickingFault_97 (by decide) ?_
          refine x_istore X [(6, iV 0), (2, iV x2_4), (1, iV x1_3), (0, .ref (ad 0))] dX8_prickingFault_121 hl (by decide) rfl (fun ls hl => ?_)
          refine x_iload X dX8_prickingFault_123 (lv_at hl 0 rfl) ?_
          refine x_if_ne X k32_0 130 dX8_prickingFault_125 (by decide) (fun hc => ?_) (fun hc => ?_)
          · replace hV := hV.1 hc
            refine x_iinc X (k := 1) (x2_4 + 1) [(2, iV (x2_4 + 1)), (6, iV 0), (1, iV x1_3), (0, .ref (ad 0))] dX8_prickingFault_130 hl rfl rfl (by decide) rfl (fun ls hl => ?_)
            refine x_goto X 9 dX8_prickingFault_133 (by decide) ?_
            exact hbk6 (x2_4 + 1) σ13 hV H locs ls hw (lv_sub hl [0, 2, 3] rfl)
          · replace hV := hV.2 hc
            refine x_iload_n X dX8_prickingFault_128 rfl (lv_at hl 1 rfl) ?_
            exact hret x2_4 σ13 H locs ls 129 hV hw dX8_prickingFault_129
        refine x_icmp_ne X rfl k32_47 96 dX8_prickingFault_81 (by decide) (fun hc => ?_) (fun hc => ?_)
        · replace hV := hV.1 hc
          exact hJ96 σ11 H locs ls hV hw (lv_sub hl [3, 4, 5] rfl)
        · replace hV := hV.2 hc
          refine x_iload_n X dX8_prickingFault_84 rfl (lv_at hl 3 rfl) ?_
          refine x_iload_n X dX8_prickingFault_85 rfl (lv_at hl 4 rfl) ?_
          obtain ⟨hn, hV⟩ := hV
          refine x_idiv X dX8_prickingFault_86 hn ?_
          refine x_bipush X dX8_prickingFault_87 (by decide) ?_
          refine x_icmp_ge X rfl k32_11 96 dX8_prickingFault_89 (by decide) (fun hc => ?_) (fun hc => ?_)
          · replace hV := hV.1 hc
            exact hJ96 σ11 H locs ls hV hw (lv_sub hl [3, 4, 5] rfl)
          · replace hV := hV.2 hc
            refine x_iconst X dX8_prickingFault_92 ?_
            refine x_goto X 121 dX8_prickingFault_93 (by decide) ?_
            refine x_istore X [(6, iV 1), (5, iV y0_10), (4, iV r9), (3, iV x3_7), (2, iV x2_4), (1, iV x1_3), (0, .ref (ad 0))] dX8_prickingFault_121 hl (by decide) rfl (fun ls hl => ?_)
            refine x_iload X dX8_prickingFault_123 (lv_at hl 0 rfl) ?_
            refine x_if_ne X k32_1 130 dX8_prickingFault_125 (by decide) (fun hc => ?_) (fun hc => ?_)
            · replace hV := hV.1 hc
              refine x_iinc X (k := 4) (x2_4 + 1) [(2, iV (x2_4 + 1)), (6, iV 1), (5, iV y0_10), (4, iV r9), (3, iV x3_7), (1, iV x1_3), (0, .ref (ad 0))] dX8_prickingFault_130 hl rfl rfl (by decide) rfl (fun ls hl => ?_)
              refine x_goto X 9 dX8_prickingFault_133 (by decide) ?_
              exact hbk6 (x2_4 + 1) σ11 hV H locs ls hw (lv_sub hl [0, 5, 6] rfl)
            · replace hV := hV.2 hc
              refine x_iload_n X dX8_prickingFault_128 rfl (lv_at hl 4 rfl) ?_
              exact hret x2_4 σ11 H locs ls 129 hV hw dX8_prickingFault_129
    have hJ66 : ∀ (σ14 : St) (H : Heap) (locs : List Loc) (ls : Array Slot), J_M_prickingFault_66 Q x1_3 x2_4 bk6 x3_7 r9 σ14 → Wx vwCl G LM ad s H locs σ14 → lv_has ls 7 [(4, iV r9), (3, iV x3_7), (2, iV x2_4), (1, iV x1_3), (0, .ref (ad 0))] → W p l e R s m args below meth c H locs 0 0 QQ (F0 m 66 ls []) := by
      intro σ14 H locs ls hV hw hl
      unfold J_M_prickingFault_66 at hV
      refine x_iconst X dX8_prickingFault_66 ?_
      exact hJ67 0 σ14 H locs ls hV hw hl
    refine x_if_le X rfl 66 dX8_prickingFault_38 (by decide) (fun hc => ?_) (fun hc => ?_)
    · replace hV := hV.1 hc
      exact hJ66 σ8 H locs ls hV hw hl
    · replace hV := hV.2 hc
      refine x_aload_n X dX8_prickingFault_41 rfl (lv_at hl 4 rfl) ?_
      refine x_getr X hw lm0 cX8 11 (by decide) rfl n_M_prickingFault_1 n_M_prickingFault_2 dX8_prickingFault_42 ?_
      refine x_iload_n X dX8_prickingFault_45 rfl (lv_at hl 2 rfl) ?_
      refine x_iconst X dX8_prickingFault_46 ?_
      refine x_isub X dX8_prickingFault_47 ?_
      obtain ⟨hi, hV⟩ := hV
      refine x_iald X hw lm10 rfl rfl hi dX8_prickingFault_48 ?_
      refine x_i2l X dX8_prickingFault_49 ?_
      refine x_ldc2 X 97 n_M_prickingFault_3 (by decide) dX8_prickingFault_50 ?_
      refine x_ldc2 X 102 n_M_prickingFault_4 (by decide) dX8_prickingFault_53 ?_
      refine x_csz X hw [lV (i32 (σ8 10 (i32 (x2_4 - 1)))), lV 97, lV 102] [] (c_M_in l G ad hI σ8 (i32 (σ8 10 (i32 (x2_4 - 1)))) 97 102 hV) (va_cwS 3 X.2.2.2.2 gX8_prickingFault_X8_in rfl rfl rfl hd_M_in ⟨x_fr hR.1 rfl, x_fr hR.2 rfl⟩) rfl hl.1 rfl (Nat.le_of_ble_eq_true rfl) dX8_prickingFault_56 ⟨Nat.zero_le _, Nat.zero_le _⟩ (fun r16 σ15 H locs hr16 hV hw => ?_)
      refine x_if_eq X rfl 66 dX8_prickingFault_59 (by decide) (fun hc => ?_) (fun hc => ?_)
      · replace hV := hV.1 hc
        exact hJ66 σ15 H locs ls hV hw hl
      · replace hV := hV.2 hc
        refine x_iconst X dX8_prickingFault_62 ?_
        refine x_goto X 67 dX8_prickingFault_63 (by decide) ?_
        exact hJ67 1 σ15 H locs ls hV hw hl

theorem n_M_read_0 : Cond.fieldLink RX8 168 "LacePillowModel" "taped" "I" ∈ wsX8_read := by decide +kernel
theorem n_M_read_1 : ∀ w ∈ wsX80, w ∈ wsX8_read := by decide +kernel
theorem n_M_read_2 : Cond.fieldLink RX8 120 "LacePillowModel" "many" "I" ∈ wsX8_read := by decide +kernel
theorem n_M_read_3 : Cond.fieldLink RX8 38 "LacePillowModel" "tape" "[I" ∈ wsX8_read := by decide +kernel
theorem n_M_read_4 : Cond.fieldLink RX8 9 "LacePillowModel" "now" "[I" ∈ wsX8_read := by decide +kernel
set_option maxHeartbeats 4000000 in
set_option maxRecDepth 100000 in
theorem c_M_read (l : Launch) (G : GT) (ad : Nat → Nat) (hI : Inj LM ad) (σ : St) {Q : Int → St → Prop} (hV : V_M_read σ Q) : Met l yX8_read wsX8_read (rmx 4 88) (Pq vwCl G LM ad σ [.ref (ad 0)]) (Qi vwCl G LM ad Q) 0 0 (Ax LM ad) := by
  unfold V_M_read at hV
  refine x_meti (own := RX8) (by decide) rfl rfl (Nat.le_of_ble_eq_true rfl) hI ?_
  intro p e s m args below meth c R QQ X hR hret ls hl hw
  replace hl : lv_has ls 5 [(0, .ref (ad 0))] := hl
  obtain ⟨H, hH⟩ : ∃ z, z = s.heap := ⟨_, rfl⟩
  obtain ⟨locs, hlo⟩ : ∃ z : List Loc, z = [] := ⟨_, rfl⟩
  rw [← hH, ← hlo]
  replace hw : Wx vwCl G LM ad s H locs σ := by rw [hH, hlo]; exact hw
  clear hH hlo
  refine x_aload_n X dX8_read_0 rfl (lv_at hl 0 rfl) ?_
  refine x_cvi X hw [] [] (c_M_prickingFault l G ad hI σ hV) (cwV 0 X.2.2.2.2 gX8_read_X8_prickingFault rfl rfl rfl hd_M_prickingFault ⟨x_fr hR.1 rfl, x_fr hR.2 rfl⟩) lm0 cX8 rfl hl.1 rfl (Nat.le_of_ble_eq_true rfl) dX8_read_1 ⟨Nat.zero_le _, Nat.zero_le _⟩ (fun r2 σ1 H locs hV hw => ?_)
  refine x_istore_n X [(1, iV r2), (0, .ref (ad 0))] dX8_read_4 rfl hl (by decide) rfl (fun ls hl => ?_)
  refine x_aload_n X dX8_read_5 rfl (lv_at hl 1 rfl) ?_
  refine x_geti X hw lm0 cX8 12 (by decide) rfl n_M_read_1 n_M_read_0 dX8_read_6 ?_
  refine x_bi (fun x2_3 ex2_3 => ?_)
  replace hV := hV x2_3 ex2_3
  clear ex2_3
  refine x_istore_n X [(2, iV x2_3), (1, iV r2), (0, .ref (ad 0))] dX8_read_9 rfl hl (by decide) rfl (fun ls hl => ?_)
  refine x_aload_n X dX8_read_10 rfl (lv_at hl 2 rfl) ?_
  refine x_iconst X dX8_read_11 ?_
  refine x_puti X hw lm0 cX8 12 (by decide) rfl n_M_read_1 n_M_read_0 tyX8 tyX8_ok nmX8 rfl rfl rfl dX8_read_12 (fun H locs σ4 hs hw => ?_)
  replace hV := hV σ4 hs
  refine x_iload_n X dX8_read_15 rfl (lv_at hl 1 rfl) ?_
  refine x_if_lt X rfl 24 dX8_read_16 (by decide) (fun hc => ?_) (fun hc => ?_)
  · replace hV := hV.1 hc
    refine x_aload_n X dX8_read_24 rfl (lv_at hl 2 rfl) ?_
    refine x_cvi X hw [] [] (c_M_gaps l G ad hI σ4 hV) (cwV 0 X.2.2.2.2 gX8_read_X8_gaps rfl rfl rfl hd_M_gaps ⟨x_fr hR.1 rfl, x_fr hR.2 rfl⟩) lm0 cX8 rfl hl.1 rfl (Nat.le_of_ble_eq_true rfl) dX8_read_25 ⟨Nat.zero_le _, Nat.zero_le _⟩ (fun r6 σ5 H locs hV hw => ?_)
    refine x_iconst X dX8_read_28 ?_
    refine x_iadd X dX8_read_29 ?_
    refine x_bi (fun x3_7 ex3_7 => ?_)
    replace hV := hV x3_7 ex3_7
    clear ex3_7
    refine x_istore_n X [(3, iV x3_7), (2, iV x2_3), (1, iV r2), (0, .ref (ad 0))] dX8_read_30 rfl hl (by decide) rfl (fun ls hl => ?_)
    refine x_iconst X dX8_read_31 ?_
    refine x_istore X [(4, iV 0), (3, iV x3_7), (2, iV x2_3), (1, iV r2), (0, .ref (ad 0))] dX8_read_32 hl (by decide) rfl (fun ls hl => ?_)
    refine WL1.use (Gl := fun x4_8 σ9 => ∀ (H : Heap) (locs : List Loc) (ls : Array Slot), Wx vwCl G LM ad s H locs σ9 → lv_has ls 5 [(4, iV x4_8), (3, iV x3_7), (2, iV x2_3), (0, .ref (ad 0))] → W p l e R s m args below meth c H locs 0 0 QQ (F0 m 34 ls [])) ?_ hV H locs ls hw (lv_sub hl [0, 1, 2, 4] rfl)
    clear hV hw hl H locs ls
    intro bk10 x4_8 σ9 hbk10 hV H locs ls hw hl
    refine x_iload X dX8_read_34 (lv_at hl 0 rfl) ?_
    refine x_bipush X dX8_read_36 (by decide) ?_
    refine x_icmp_ge X rfl k32_84 57 dX8_read_38 (by decide) (fun hc => ?_) (fun hc => ?_)
    · replace hV := hV.1 hc
      refine x_iconst X dX8_read_57 ?_
      refine x_istore X [(4, iV 0), (3, iV x3_7), (2, iV x2_3), (0, .ref (ad 0))] dX8_read_58 hl (by decide) rfl (fun ls hl => ?_)
      refine WL1.use (Gl := fun x4_11 σ12 => ∀ (H : Heap) (locs : List Loc) (ls : Array Slot), Wx vwCl G LM ad s H locs σ12 → lv_has ls 5 [(4, iV x4_11), (3, iV x3_7), (2, iV x2_3), (0, .ref (ad 0))] → W p l e R s m args below meth c H locs 0 0 QQ (F0 m 60 ls [])) ?_ hV H locs ls hw hl
      clear hV hw hl H locs ls
      intro bk13 x4_11 σ12 hbk13 hV H locs ls hw hl
      refine x_iload X dX8_read_60 (lv_at hl 0 rfl) ?_
      refine x_iload_n X dX8_read_62 rfl (lv_at hl 2 rfl) ?_
      refine x_icmp_ge X rfl rfl 123 dX8_read_63 (by decide) (fun hc => ?_) (fun hc => ?_)
      · replace hV := hV.1 hc
        refine x_aload_n X dX8_read_123 rfl (lv_at hl 3 rfl) ?_
        refine x_cvv X hw [] [] (c_M_anew l G ad hI σ12 hV) (cwV 0 X.2.2.2.2 gX8_read_X8_anew rfl rfl rfl hd_M_anew ⟨x_fr hR.1 rfl, x_fr hR.2 rfl⟩) lm0 cX8 rfl hl.1 rfl (Nat.le_of_ble_eq_true rfl) dX8_read_124 ⟨Nat.zero_le _, Nat.zero_le _⟩ (fun σ14 H locs hV hw => ?_)
        refine x_aload_n X dX8_read_127 rfl (lv_at hl 3 rfl) ?_
        refine x_geti X hw lm0 cX8 5 (by decide) rfl n_M_read_1 n_M_read_2 dX8_read_128 ?_
        exact hret (σ14 0 5) σ14 H locs ls 131 hV hw dX8_read_131
      · replace hV := hV.2 hc
        refine x_iload X dX8_read_66 (lv_at hl 0 rfl) ?_
        refine x_iload_n X dX8_read_68 rfl (lv_at hl 1 rfl) ?_
        obtain ⟨hn, hV⟩ := hV
        refine x_irem X dX8_read_69 hn ?_
        refine x_iload_n X dX8_read_70 rfl (lv_at hl 1 rfl) ?_
        refine x_iconst X dX8_read_71 ?_
        refine x_isub X dX8_read_72 ?_
        refine x_icmp_ge X rfl rfl 117 dX8_read_73 (by decide) (fun hc => ?_) (fun hc => ?_)
        · replace hV := hV.1 hc
          refine x_iinc X (k := 0) (x4_11 + 1) [(4, iV (x4_11 + 1)), (3, iV x3_7), (2, iV x2_3), (0, .ref (ad 0))] dX8_read_117 hl rfl rfl (by decide) rfl (fun ls hl => ?_)
          refine x_goto X 60 dX8_read_120 (by decide) ?_
          exact hbk13 (x4_11 + 1) σ12 hV H locs ls hw hl
        · replace hV := hV.2 hc
          refine x_aload_n X dX8_read_76 rfl (lv_at hl 3 rfl) ?_
          refine x_getr X hw lm0 cX8 11 (by decide) rfl n_M_read_1 n_M_read_3 dX8_read_77 ?_
          refine x_iload X dX8_read_80 (lv_at hl 0 rfl) ?_
          obtain ⟨hi, hV⟩ := hV
          refine x_iald X hw lm10 rfl rfl hi dX8_read_82 ?_
          refine x_bipush X dX8_read_83 (by decide) ?_
          refine x_icmp_eq X rfl k32_46 117 dX8_read_85 (by decide) (fun hc => ?_) (fun hc => ?_)
          · replace hV := hV.1 hc
            refine x_iinc X (k := 0) (x4_11 + 1) [(4, iV (x4_11 + 1)), (3, iV x3_7), (2, iV x2_3), (0, .ref (ad 0))] dX8_read_117 hl rfl rfl (by decide) rfl (fun ls hl => ?_)
            refine x_goto X 60 dX8_read_120 (by decide) ?_
            exact hbk13 (x4_11 + 1) σ12 hV H locs ls hw hl
          · replace hV := hV.2 hc
            refine x_aload_n X dX8_read_88 rfl (lv_at hl 3 rfl) ?_
            refine x_getr X hw lm0 cX8 0 (by decide) rfl n_M_read_1 n_M_read_4 dX8_read_89 ?_
            refine x_iconst X dX8_read_92 ?_
            refine x_bipush X dX8_read_93 (by decide) ?_
            refine x_iload X dX8_read_95 (lv_at hl 0 rfl) ?_
            refine x_iload_n X dX8_read_97 rfl (lv_at hl 1 rfl) ?_
            obtain ⟨hn, hV⟩ := hV
            refine x_idiv X dX8_read_98 hn ?_
            refine x_imul X dX8_read_99 ?_
            refine x_iadd X dX8_read_100 ?_
            refine x_iload X dX8_read_101 (lv_at hl 0 rfl) ?_
            refine x_iload_n X dX8_read_103 rfl (lv_at hl 1 rfl) ?_
            obtain ⟨hn, hV⟩ := hV
            refine x_irem X dX8_read_104 hn ?_
            refine x_iadd X dX8_read_105 ?_
            refine x_aload_n X dX8_read_106 rfl (lv_at hl 3 rfl) ?_
            refine x_getr X hw lm0 cX8 11 (by decide) rfl n_M_read_1 n_M_read_3 dX8_read_107 ?_
            refine x_iload X dX8_read_110 (lv_at hl 0 rfl) ?_
            obtain ⟨hi, hV⟩ := hV
            refine x_iald X hw lm10 rfl rfl hi dX8_read_112 ?_
            refine x_bipush X dX8_read_113 (by decide) ?_
            refine x_isub X dX8_read_115 ?_
            obtain ⟨hi, hV⟩ := hV
            refine x_iast X hw lm1 rfl rfl hi dX8_read_116 (fun H locs σ15 hs hw => ?_)
            replace hV := hV σ15 hs
            refine x_iinc X (k := 0) (x4_11 + 1) [(4, iV (x4_11 + 1)), (3, iV x3_7), (2, iV x2_3), (0, .ref (ad 0))] dX8_read_117 hl rfl rfl (by decide) rfl (fun ls hl => ?_)
            refine x_goto X 60 dX8_read_120 (by decide) ?_
            exact hbk13 (x4_11 + 1) σ15 hV H locs ls hw hl
    · replace hV := hV.2 hc
      refine x_aload_n X dX8_read_41 rfl (lv_at hl 3 rfl) ?_
      refine x_getr X hw lm0 cX8 0 (by decide) rfl n_M_read_1 n_M_read_4 dX8_read_42 ?_
      refine x_iconst X dX8_read_45 ?_
      refine x_iload X dX8_read_46 (lv_at hl 0 rfl) ?_
      refine x_iadd X dX8_read_48 ?_
      refine x_iconst X dX8_read_49 ?_
      obtain ⟨hi, hV⟩ := hV
      refine x_iast X hw lm1 rfl rfl hi dX8_read_50 (fun H locs σ16 hs hw => ?_)
      replace hV := hV σ16 hs
      refine x_iinc X (k := 0) (x4_8 + 1) [(4, iV (x4_8 + 1)), (3, iV x3_7), (2, iV x2_3), (0, .ref (ad 0))] dX8_read_51 hl rfl rfl (by decide) rfl (fun ls hl => ?_)
      refine x_goto X 34 dX8_read_54 (by decide) ?_
      exact hbk10 (x4_8 + 1) σ16 hV H locs ls hw hl
  · replace hV := hV.2 hc
    refine x_bipush X dX8_read_19 (by decide) ?_
    refine x_iload_n X dX8_read_21 rfl (lv_at hl 1 rfl) ?_
    refine x_isub X dX8_read_22 ?_
    exact hret ((-10) - r2) σ4 H locs ls 23 hV hw dX8_read_23

set_option maxHeartbeats 4000000 in
set_option maxRecDepth 100000 in
theorem c_M_isTold (l : Launch) (G : GT) (ad : Nat → Nat) (hI : Inj LM ad) (σ : St) (a1 : Int) {Q : Int → St → Prop} (hV : V_M_isTold σ a1 Q) : Met l yX8_isTold wsX8_isTold (rmx 0 0) (Pq vwCl G LM ad σ [iV a1]) (Qz vwCl G LM ad Q) 0 0 (Ax LM ad) := by
  unfold V_M_isTold at hV
  refine x_metz (own := RX8) (by decide) rfl rfl (Nat.le_of_ble_eq_true rfl) hI ?_
  intro p e s m args below meth c R QQ X hR hret ls hl hw
  replace hl : lv_has ls 1 [(0, iV a1)] := hl
  obtain ⟨H, hH⟩ : ∃ z, z = s.heap := ⟨_, rfl⟩
  obtain ⟨locs, hlo⟩ : ∃ z : List Loc, z = [] := ⟨_, rfl⟩
  rw [← hH, ← hlo]
  replace hw : Wx vwCl G LM ad s H locs σ := by rw [hH, hlo]; exact hw
  clear hH hlo
  refine x_iload_n X dX8_isTold_0 rfl (lv_at hl 0 rfl) ?_
  refine x_bipush X dX8_isTold_1 (by decide) ?_
  refine x_icmp_eq X rfl k32_99 24 dX8_isTold_3 (by decide) (fun hc => ?_) (fun hc => ?_)
  · replace hV := hV.1 hc
    refine x_iconst X dX8_isTold_24 ?_
    refine x_goto X 29 dX8_isTold_25 (by decide) ?_
    exact hret 1 σ H locs ls 29 (by decide) hV hw dX8_isTold_29
  · replace hV := hV.2 hc
    refine x_iload_n X dX8_isTold_6 rfl (lv_at hl 0 rfl) ?_
    refine x_bipush X dX8_isTold_7 (by decide) ?_
    refine x_icmp_eq X rfl k32_67 24 dX8_isTold_9 (by decide) (fun hc => ?_) (fun hc => ?_)
    · replace hV := hV.1 hc
      refine x_iconst X dX8_isTold_24 ?_
      refine x_goto X 29 dX8_isTold_25 (by decide) ?_
      exact hret 1 σ H locs ls 29 (by decide) hV hw dX8_isTold_29
    · replace hV := hV.2 hc
      refine x_iload_n X dX8_isTold_12 rfl (lv_at hl 0 rfl) ?_
      refine x_bipush X dX8_isTold_13 (by decide) ?_
      refine x_icmp_eq X rfl k32_116 24 dX8_isTold_15 (by decide) (fun hc => ?_) (fun hc => ?_)
      · replace hV := hV.1 hc
        refine x_iconst X dX8_isTold_24 ?_
        refine x_goto X 29 dX8_isTold_25 (by decide) ?_
        exact hret 1 σ H locs ls 29 (by decide) hV hw dX8_isTold_29
      · replace hV := hV.2 hc
        refine x_iload_n X dX8_isTold_18 rfl (lv_at hl 0 rfl) ?_
        refine x_bipush X dX8_isTold_19 (by decide) ?_
        refine x_icmp_ne X rfl k32_84 28 dX8_isTold_21 (by decide) (fun hc => ?_) (fun hc => ?_)
        · replace hV := hV.1 hc
          refine x_iconst X dX8_isTold_28 ?_
          exact hret 0 σ H locs ls 29 (by decide) hV hw dX8_isTold_29
        · replace hV := hV.2 hc
          refine x_iconst X dX8_isTold_24 ?_
          refine x_goto X 29 dX8_isTold_25 (by decide) ?_
          exact hret 1 σ H locs ls 29 (by decide) hV hw dX8_isTold_29

theorem n_M_spell_0 : Cond.constantLong RX8 163 (5) ∈ wsX8_spell := by decide +kernel
theorem n_M_spell_1 : Cond.fieldLink RX8 168 "LacePillowModel" "taped" "I" ∈ wsX8_spell := by decide +kernel
theorem n_M_spell_2 : ∀ w ∈ wsX80, w ∈ wsX8_spell := by decide +kernel
theorem n_M_spell_3 : Cond.fieldLink RX8 9 "LacePillowModel" "now" "[I" ∈ wsX8_spell := by decide +kernel
theorem n_M_spell_4 : Cond.fieldLink RX8 38 "LacePillowModel" "tape" "[I" ∈ wsX8_spell := by decide +kernel
theorem n_M_spell_5 : Cond.constant RX8 149 (-1000000001) ∈ wsX8_spell := by decide +kernel
set_option maxHeartbeats 4000000 in
set_option maxRecDepth 100000 in
theorem c_M_spell (l : Launch) (G : GT) (ad : Nat → Nat) (hI : Inj LM ad) (σ : St) (a1 : Int) {Q : Int → St → Prop} (hV : V_M_spell σ a1 Q) : Met l yX8_spell wsX8_spell (rmx 4 88) (Pq vwCl G LM ad σ [.ref (ad 0), iV a1]) (Qi vwCl G LM ad Q) 0 0 (Ax LM ad) := by
  unfold V_M_spell at hV
  refine x_meti (own := RX8) (by decide) rfl rfl (Nat.le_of_ble_eq_true rfl) hI ?_
  intro p e s m args below meth c R QQ X hR hret ls hl hw
  replace hl : lv_has ls 5 [(0, .ref (ad 0)), (1, iV a1)] := hl
  obtain ⟨H, hH⟩ : ∃ z, z = s.heap := ⟨_, rfl⟩
  obtain ⟨locs, hlo⟩ : ∃ z : List Loc, z = [] := ⟨_, rfl⟩
  rw [← hH, ← hlo]
  replace hw : Wx vwCl G LM ad s H locs σ := by rw [hH, hlo]; exact hw
  clear hH hlo
  refine x_iload_n X dX8_spell_0 rfl (lv_at hl 1 rfl) ?_
  refine x_i2l X dX8_spell_1 ?_
  refine x_lconst X 0 dX8_spell_2 rfl ?_
  refine x_ldc2 X 5 n_M_spell_0 (by decide) dX8_spell_3 ?_
  refine x_csz X hw [lV (i32 a1), lV 0, lV 5] [] (c_M_in l G ad hI σ (i32 a1) 0 5 hV) (va_cwS 3 X.2.2.2.2 gX8_spell_X8_in rfl rfl rfl hd_M_in ⟨x_fr hR.1 rfl, x_fr hR.2 rfl⟩) rfl hl.1 rfl (Nat.le_of_ble_eq_true rfl) dX8_spell_6 ⟨Nat.zero_le _, Nat.zero_le _⟩ (fun r2 σ1 H locs hr2 hV hw => ?_)
  refine x_if_ne X rfl 19 dX8_spell_9 (by decide) (fun hc => ?_) (fun hc => ?_)
  · replace hV := hV.1 hc
    refine x_aload_n X dX8_spell_19 rfl (lv_at hl 0 rfl) ?_
    refine x_geti X hw lm0 cX8 12 (by decide) rfl n_M_spell_2 n_M_spell_1 dX8_spell_20 ?_
    refine x_bi (fun x2_3 ex2_3 => ?_)
    replace hV := hV x2_3 ex2_3
    clear ex2_3
    refine x_istore_n X [(2, iV x2_3), (0, .ref (ad 0)), (1, iV a1)] dX8_spell_23 rfl hl (by decide) rfl (fun ls hl => ?_)
    refine x_aload_n X dX8_spell_24 rfl (lv_at hl 1 rfl) ?_
    refine x_iconst X dX8_spell_25 ?_
    refine x_puti X hw lm0 cX8 12 (by decide) rfl n_M_spell_2 n_M_spell_1 tyX8 tyX8_ok nmX8 rfl rfl rfl dX8_spell_26 (fun H locs σ4 hs hw => ?_)
    replace hV := hV σ4 hs
    refine x_iconst X dX8_spell_29 ?_
    refine x_istore_n X [(3, iV 0), (2, iV x2_3), (0, .ref (ad 0)), (1, iV a1)] dX8_spell_30 rfl hl (by decide) rfl (fun ls hl => ?_)
    refine WL1.use (Gl := fun x3_5 σ6 => ∀ (H : Heap) (locs : List Loc) (ls : Array Slot), Wx vwCl G LM ad s H locs σ6 → lv_has ls 5 [(3, iV x3_5), (2, iV x2_3), (0, .ref (ad 0)), (1, iV a1)] → W p l e R s m args below meth c H locs 0 0 QQ (F0 m 31 ls [])) ?_ hV H locs ls hw hl
    clear hV hw hl H locs ls
    intro bk7 x3_5 σ6 hbk7 hV H locs ls hw hl
    refine x_iload_n X dX8_spell_31 rfl (lv_at hl 0 rfl) ?_
    refine x_iload_n X dX8_spell_32 rfl (lv_at hl 1 rfl) ?_
    have hJ60 : ∀ (σ8 : St) (H : Heap) (locs : List Loc) (ls : Array Slot), J_M_spell_60 a1 Q x2_3 x3_5 σ8 → Wx vwCl G LM ad s H locs σ8 → lv_has ls 5 [(3, iV x3_5), (2, iV x2_3), (0, .ref (ad 0)), (1, iV a1)] → W p l e R s m args below meth c H locs 0 0 QQ (F0 m 60 ls []) := by
      intro σ8 H locs ls hV hw hl
      unfold J_M_spell_60 at hV
      refine x_iload_n X dX8_spell_60 rfl (lv_at hl 1 rfl) ?_
      refine x_if_eq X rfl 69 dX8_spell_61 (by decide) (fun hc => ?_) (fun hc => ?_)
      · replace hV := hV.1 hc
        refine x_bipush X dX8_spell_69 (by decide) ?_
        refine x_iload_n X dX8_spell_71 rfl (lv_at hl 0 rfl) ?_
        refine x_isub X dX8_spell_72 ?_
        exact hret ((-10) - x3_5) σ8 H locs ls 73 hV hw dX8_spell_73
      · replace hV := hV.2 hc
        refine x_iload_n X dX8_spell_64 rfl (lv_at hl 0 rfl) ?_
        refine x_iload_n X dX8_spell_65 rfl (lv_at hl 1 rfl) ?_
        refine x_icmp_ge X rfl rfl 74 dX8_spell_66 (by decide) (fun hc => ?_) (fun hc => ?_)
        · replace hV := hV.1 hc
          refine x_aload_n X dX8_spell_74 rfl (lv_at hl 2 rfl) ?_
          refine x_getr X hw lm0 cX8 0 (by decide) rfl n_M_spell_2 n_M_spell_3 dX8_spell_75 ?_
          refine x_bipush X dX8_spell_78 (by decide) ?_
          refine x_bipush X dX8_spell_80 (by decide) ?_
          refine x_iload_n X dX8_spell_82 rfl (lv_at hl 3 rfl) ?_
          refine x_imul X dX8_spell_83 ?_
          refine x_iadd X dX8_spell_84 ?_
          refine x_iload_n X dX8_spell_85 rfl (lv_at hl 1 rfl) ?_
          obtain ⟨hi, hV⟩ := hV
          refine x_iast X hw lm1 rfl rfl hi dX8_spell_86 (fun H locs σ9 hs hw => ?_)
          replace hV := hV σ9 hs
          refine x_iconst X dX8_spell_87 ?_
          refine x_istore X [(4, iV 0), (3, iV x3_5), (2, iV x2_3), (0, .ref (ad 0)), (1, iV a1)] dX8_spell_88 hl (by decide) rfl (fun ls hl => ?_)
          refine WL1.use (Gl := fun x4_10 σ11 => ∀ (H : Heap) (locs : List Loc) (ls : Array Slot), Wx vwCl G LM ad s H locs σ11 → lv_has ls 5 [(4, iV x4_10), (2, iV x2_3), (0, .ref (ad 0)), (1, iV a1)] → W p l e R s m args below meth c H locs 0 0 QQ (F0 m 90 ls [])) ?_ hV H locs ls hw (lv_sub hl [0, 2, 3, 4] rfl)
          clear hV hw hl H locs ls
          intro bk12 x4_10 σ11 hbk12 hV H locs ls hw hl
          refine x_iload X dX8_spell_90 (lv_at hl 0 rfl) ?_
          refine x_iload_n X dX8_spell_92 rfl (lv_at hl 1 rfl) ?_
          refine x_icmp_ge X rfl rfl 126 dX8_spell_93 (by decide) (fun hc => ?_) (fun hc => ?_)
          · replace hV := hV.1 hc
            refine x_aload_n X dX8_spell_126 rfl (lv_at hl 2 rfl) ?_
            refine x_cvv X hw [] [] (c_M_anew l G ad hI σ11 hV) (cwV 0 X.2.2.2.2 gX8_spell_X8_anew rfl rfl rfl hd_M_anew ⟨x_fr hR.1 rfl, x_fr hR.2 rfl⟩) lm0 cX8 rfl hl.1 rfl (Nat.le_of_ble_eq_true rfl) dX8_spell_127 ⟨Nat.zero_le _, Nat.zero_le _⟩ (fun σ13 H locs hV hw => ?_)
            refine x_iload_n X dX8_spell_130 rfl (lv_at hl 1 rfl) ?_
            exact hret x2_3 σ13 H locs ls 131 hV hw dX8_spell_131
          · replace hV := hV.2 hc
            refine x_aload_n X dX8_spell_96 rfl (lv_at hl 2 rfl) ?_
            refine x_getr X hw lm0 cX8 0 (by decide) rfl n_M_spell_2 n_M_spell_3 dX8_spell_97 ?_
            refine x_bipush X dX8_spell_100 (by decide) ?_
            refine x_bipush X dX8_spell_102 (by decide) ?_
            refine x_iload_n X dX8_spell_104 rfl (lv_at hl 3 rfl) ?_
            refine x_imul X dX8_spell_105 ?_
            refine x_iadd X dX8_spell_106 ?_
            refine x_iconst X dX8_spell_107 ?_
            refine x_iadd X dX8_spell_108 ?_
            refine x_iload X dX8_spell_109 (lv_at hl 0 rfl) ?_
            refine x_iadd X dX8_spell_111 ?_
            refine x_aload_n X dX8_spell_112 rfl (lv_at hl 2 rfl) ?_
            refine x_getr X hw lm0 cX8 11 (by decide) rfl n_M_spell_2 n_M_spell_4 dX8_spell_113 ?_
            refine x_iload X dX8_spell_116 (lv_at hl 0 rfl) ?_
            obtain ⟨hi, hV⟩ := hV
            refine x_iald X hw lm10 rfl rfl hi dX8_spell_118 ?_
            obtain ⟨hi, hV⟩ := hV
            refine x_iast X hw lm1 rfl rfl hi dX8_spell_119 (fun H locs σ14 hs hw => ?_)
            replace hV := hV σ14 hs
            refine x_iinc X (k := 0) (x4_10 + 1) [(4, iV (x4_10 + 1)), (2, iV x2_3), (0, .ref (ad 0)), (1, iV a1)] dX8_spell_120 hl rfl rfl (by decide) rfl (fun ls hl => ?_)
            refine x_goto X 90 dX8_spell_123 (by decide) ?_
            exact hbk12 (x4_10 + 1) σ14 hV H locs ls hw hl
        · replace hV := hV.2 hc
          refine x_bipush X dX8_spell_69 (by decide) ?_
          refine x_iload_n X dX8_spell_71 rfl (lv_at hl 0 rfl) ?_
          refine x_isub X dX8_spell_72 ?_
          exact hret ((-10) - x3_5) σ8 H locs ls 73 hV hw dX8_spell_73
    refine x_icmp_ge X rfl rfl 60 dX8_spell_33 (by decide) (fun hc => ?_) (fun hc => ?_)
    · replace hV := hV.1 hc
      exact hJ60 σ6 H locs ls hV hw hl
    · replace hV := hV.2 hc
      refine x_iload_n X dX8_spell_36 rfl (lv_at hl 0 rfl) ?_
      refine x_bipush X dX8_spell_37 (by decide) ?_
      refine x_icmp_ge X rfl k32_8 60 dX8_spell_39 (by decide) (fun hc => ?_) (fun hc => ?_)
      · replace hV := hV.1 hc
        exact hJ60 σ6 H locs ls hV hw hl
      · replace hV := hV.2 hc
        refine x_aload_n X dX8_spell_42 rfl (lv_at hl 2 rfl) ?_
        refine x_getr X hw lm0 cX8 11 (by decide) rfl n_M_spell_2 n_M_spell_4 dX8_spell_43 ?_
        refine x_iload_n X dX8_spell_46 rfl (lv_at hl 0 rfl) ?_
        obtain ⟨hi, hV⟩ := hV
        refine x_iald X hw lm10 rfl rfl hi dX8_spell_47 ?_
        refine x_csz X hw [iV (σ6 10 (i32 x3_5))] [] (c_M_isTold l G ad hI σ6 (σ6 10 (i32 x3_5)) hV) (va_cwS 1 X.2.2.2.2 gX8_spell_X8_isTold rfl rfl rfl hd_M_isTold ⟨x_fr hR.1 rfl, x_fr hR.2 rfl⟩) rfl hl.1 rfl (Nat.le_of_ble_eq_true rfl) dX8_spell_48 ⟨Nat.zero_le _, Nat.zero_le _⟩ (fun r16 σ15 H locs hr16 hV hw => ?_)
        refine x_if_eq X rfl 60 dX8_spell_51 (by decide) (fun hc => ?_) (fun hc => ?_)
        · replace hV := hV.1 hc
          exact hJ60 σ15 H locs ls hV hw hl
        · replace hV := hV.2 hc
          refine x_iinc X (k := 0) (x3_5 + 1) [(3, iV (x3_5 + 1)), (2, iV x2_3), (0, .ref (ad 0)), (1, iV a1)] dX8_spell_54 hl rfl rfl (by decide) rfl (fun ls hl => ?_)
          refine x_goto X 31 dX8_spell_57 (by decide) ?_
          exact hbk7 (x3_5 + 1) σ15 hV H locs ls hw hl
  · replace hV := hV.2 hc
    refine x_aload_n X dX8_spell_12 rfl (lv_at hl 0 rfl) ?_
    refine x_ldc X (-1000000001) n_M_spell_5 (by decide) dX8_spell_13 ?_
    refine x_cvi X hw [iV (-1000000001)] [] (c_M_errs l G ad hI σ1 (-1000000001) hV) (cwV 1 X.2.2.2.2 gX8_spell_X8_errs rfl rfl rfl hd_M_errs ⟨x_fr hR.1 rfl, x_fr hR.2 rfl⟩) lm0 cX8 rfl hl.1 rfl (Nat.le_of_ble_eq_true rfl) dX8_spell_15 ⟨Nat.zero_le _, Nat.zero_le _⟩ (fun r18 σ17 H locs hV hw => ?_)
    exact hret r18 σ17 H locs ls 18 hV hw dX8_spell_18

theorem n_M_letterOf_0 : Cond.fieldLink RX8 9 "LacePillowModel" "now" "[I" ∈ wsX8_letterOf := by decide +kernel
theorem n_M_letterOf_1 : ∀ w ∈ wsX80, w ∈ wsX8_letterOf := by decide +kernel
set_option maxHeartbeats 4000000 in
set_option maxRecDepth 100000 in
theorem c_M_letterOf (l : Launch) (G : GT) (ad : Nat → Nat) (hI : Inj LM ad) (σ : St) (a1 : Int) (a2 : Int) {Q : Int → St → Prop} (hV : V_M_letterOf σ a1 a2 Q) : Met l yX8_letterOf wsX8_letterOf (rmx 0 0) (Pq vwCl G LM ad σ [.ref (ad 0), iV a1, iV a2]) (Qi vwCl G LM ad Q) 0 0 (Ax LM ad) := by
  unfold V_M_letterOf at hV
  refine x_meti (own := RX8) (by decide) rfl rfl (Nat.le_of_ble_eq_true rfl) hI ?_
  intro p e s m args below meth c R QQ X hR hret ls hl hw
  replace hl : lv_has ls 3 [(0, .ref (ad 0)), (1, iV a1), (2, iV a2)] := hl
  obtain ⟨H, hH⟩ : ∃ z, z = s.heap := ⟨_, rfl⟩
  obtain ⟨locs, hlo⟩ : ∃ z : List Loc, z = [] := ⟨_, rfl⟩
  rw [← hH, ← hlo]
  replace hw : Wx vwCl G LM ad s H locs σ := by rw [hH, hlo]; exact hw
  clear hH hlo
  refine x_aload_n X dX8_letterOf_0 rfl (lv_at hl 0 rfl) ?_
  refine x_getr X hw lm0 cX8 0 (by decide) rfl n_M_letterOf_1 n_M_letterOf_0 dX8_letterOf_1 ?_
  refine x_bipush X dX8_letterOf_4 (by decide) ?_
  refine x_bipush X dX8_letterOf_6 (by decide) ?_
  refine x_iload_n X dX8_letterOf_8 rfl (lv_at hl 1 rfl) ?_
  refine x_imul X dX8_letterOf_9 ?_
  refine x_iadd X dX8_letterOf_10 ?_
  refine x_iconst X dX8_letterOf_11 ?_
  refine x_iadd X dX8_letterOf_12 ?_
  refine x_iload_n X dX8_letterOf_13 rfl (lv_at hl 2 rfl) ?_
  refine x_iadd X dX8_letterOf_14 ?_
  obtain ⟨hi, hV⟩ := hV
  refine x_iald X hw lm1 rfl rfl hi dX8_letterOf_15 ?_
  exact hret (σ 1 (i32 (((86 + (9 * a1)) + 1) + a2))) σ H locs ls 16 hV hw dX8_letterOf_16

theorem n_M_letter_0 : Cond.constantLong RX8 163 (5) ∈ wsX8_letter := by decide +kernel
theorem n_M_letter_1 : Cond.constant RX8 149 (-1000000001) ∈ wsX8_letter := by decide +kernel
theorem n_M_letter_2 : Cond.fieldLink RX8 9 "LacePillowModel" "now" "[I" ∈ wsX8_letter := by decide +kernel
theorem n_M_letter_3 : ∀ w ∈ wsX80, w ∈ wsX8_letter := by decide +kernel
set_option maxHeartbeats 4000000 in
set_option maxRecDepth 100000 in
theorem c_M_letter (l : Launch) (G : GT) (ad : Nat → Nat) (hI : Inj LM ad) (σ : St) (a1 : Int) (a2 : Int) {Q : Int → St → Prop} (hV : V_M_letter σ a1 a2 Q) : Met l yX8_letter wsX8_letter (rmx 1 25) (Pq vwCl G LM ad σ [.ref (ad 0), iV a1, iV a2]) (Qi vwCl G LM ad Q) 0 0 (Ax LM ad) := by
  unfold V_M_letter at hV
  refine x_meti (own := RX8) (by decide) rfl rfl (Nat.le_of_ble_eq_true rfl) hI ?_
  intro p e s m args below meth c R QQ X hR hret ls hl hw
  replace hl : lv_has ls 3 [(0, .ref (ad 0)), (1, iV a1), (2, iV a2)] := hl
  obtain ⟨H, hH⟩ : ∃ z, z = s.heap := ⟨_, rfl⟩
  obtain ⟨locs, hlo⟩ : ∃ z : List Loc, z = [] := ⟨_, rfl⟩
  rw [← hH, ← hlo]
  replace hw : Wx vwCl G LM ad s H locs σ := by rw [hH, hlo]; exact hw
  clear hH hlo
  refine x_iload_n X dX8_letter_0 rfl (lv_at hl 1 rfl) ?_
  refine x_i2l X dX8_letter_1 ?_
  refine x_lconst X 0 dX8_letter_2 rfl ?_
  refine x_ldc2 X 5 n_M_letter_0 (by decide) dX8_letter_3 ?_
  refine x_csz X hw [lV (i32 a1), lV 0, lV 5] [] (c_M_in l G ad hI σ (i32 a1) 0 5 hV) (va_cwS 3 X.2.2.2.2 gX8_letter_X8_in rfl rfl rfl hd_M_in ⟨x_fr hR.1 rfl, x_fr hR.2 rfl⟩) rfl hl.1 rfl (Nat.le_of_ble_eq_true rfl) dX8_letter_6 ⟨Nat.zero_le _, Nat.zero_le _⟩ (fun r2 σ1 H locs hr2 hV hw => ?_)
  refine x_if_eq X rfl 45 dX8_letter_9 (by decide) (fun hc => ?_) (fun hc => ?_)
  · replace hV := hV.1 hc
    refine x_aload_n X dX8_letter_45 rfl (lv_at hl 0 rfl) ?_
    refine x_ldc X (-1000000001) n_M_letter_1 (by decide) dX8_letter_46 ?_
    refine x_cvi X hw [iV (-1000000001)] [] (c_M_errs l G ad hI σ1 (-1000000001) hV) (cwV 1 X.2.2.2.2 gX8_letter_X8_errs rfl rfl rfl hd_M_errs ⟨x_fr hR.1 rfl, x_fr hR.2 rfl⟩) lm0 cX8 rfl hl.1 rfl (Nat.le_of_ble_eq_true rfl) dX8_letter_48 ⟨Nat.zero_le _, Nat.zero_le _⟩ (fun r4 σ3 H locs hV hw => ?_)
    exact hret r4 σ3 H locs ls 51 hV hw dX8_letter_51
  · replace hV := hV.2 hc
    refine x_iload_n X dX8_letter_12 rfl (lv_at hl 2 rfl) ?_
    refine x_i2l X dX8_letter_13 ?_
    refine x_lconst X 0 dX8_letter_14 rfl ?_
    refine x_aload_n X dX8_letter_15 rfl (lv_at hl 0 rfl) ?_
    refine x_getr X hw lm0 cX8 0 (by decide) rfl n_M_letter_3 n_M_letter_2 dX8_letter_16 ?_
    refine x_bipush X dX8_letter_19 (by decide) ?_
    refine x_bipush X dX8_letter_21 (by decide) ?_
    refine x_iload_n X dX8_letter_23 rfl (lv_at hl 1 rfl) ?_
    refine x_imul X dX8_letter_24 ?_
    refine x_iadd X dX8_letter_25 ?_
    obtain ⟨hi, hV⟩ := hV
    refine x_iald X hw lm1 rfl rfl hi dX8_letter_26 ?_
    refine x_iconst X dX8_letter_27 ?_
    refine x_isub X dX8_letter_28 ?_
    refine x_i2l X dX8_letter_29 ?_
    refine x_csz X hw [lV (i32 a2), lV 0, lV (i32 ((σ1 1 (i32 (86 + (9 * a1)))) - 1))] [] (c_M_in l G ad hI σ1 (i32 a2) 0 (i32 ((σ1 1 (i32 (86 + (9 * a1)))) - 1)) hV) (va_cwS 3 X.2.2.2.2 gX8_letter_X8_in rfl rfl rfl hd_M_in ⟨x_fr hR.1 rfl, x_fr hR.2 rfl⟩) rfl hl.1 rfl (Nat.le_of_ble_eq_true rfl) dX8_letter_30 ⟨Nat.zero_le _, Nat.zero_le _⟩ (fun r6 σ5 H locs hr6 hV hw => ?_)
    refine x_if_eq X rfl 45 dX8_letter_33 (by decide) (fun hc => ?_) (fun hc => ?_)
    · replace hV := hV.1 hc
      refine x_aload_n X dX8_letter_45 rfl (lv_at hl 0 rfl) ?_
      refine x_ldc X (-1000000001) n_M_letter_1 (by decide) dX8_letter_46 ?_
      refine x_cvi X hw [iV (-1000000001)] [] (c_M_errs l G ad hI σ5 (-1000000001) hV) (cwV 1 X.2.2.2.2 gX8_letter_X8_errs rfl rfl rfl hd_M_errs ⟨x_fr hR.1 rfl, x_fr hR.2 rfl⟩) lm0 cX8 rfl hl.1 rfl (Nat.le_of_ble_eq_true rfl) dX8_letter_48 ⟨Nat.zero_le _, Nat.zero_le _⟩ (fun r8 σ7 H locs hV hw => ?_)
      exact hret r8 σ7 H locs ls 51 hV hw dX8_letter_51
    · replace hV := hV.2 hc
      refine x_aload_n X dX8_letter_36 rfl (lv_at hl 0 rfl) ?_
      refine x_iload_n X dX8_letter_37 rfl (lv_at hl 1 rfl) ?_
      refine x_iload_n X dX8_letter_38 rfl (lv_at hl 2 rfl) ?_
      refine x_cvi X hw [iV a1, iV a2] [] (c_M_letterOf l G ad hI σ5 a1 a2 hV) (cwV 2 X.2.2.2.2 gX8_letter_X8_letterOf rfl rfl rfl hd_M_letterOf ⟨x_fr hR.1 rfl, x_fr hR.2 rfl⟩) lm0 cX8 rfl hl.1 rfl (Nat.le_of_ble_eq_true rfl) dX8_letter_39 ⟨Nat.zero_le _, Nat.zero_le _⟩ (fun r10 σ9 H locs hV hw => ?_)
      refine x_goto X 51 dX8_letter_42 (by decide) ?_
      exact hret r10 σ9 H locs ls 51 hV hw dX8_letter_51

theorem n_M_begins_0 : Cond.fieldLink RX8 186 "LacePillowModel" "crossings" "I" ∈ wsX8_begins := by decide +kernel
theorem n_M_begins_1 : ∀ w ∈ wsX80, w ∈ wsX8_begins := by decide +kernel
theorem n_M_begins_2 : Cond.fieldLink RX8 41 "LacePillowModel" "at" "[I" ∈ wsX8_begins := by decide +kernel
theorem n_M_begins_3 : Cond.fieldLink RX8 44 "LacePillowModel" "used" "[I" ∈ wsX8_begins := by decide +kernel
set_option maxHeartbeats 4000000 in
set_option maxRecDepth 100000 in
theorem c_M_begins (l : Launch) (G : GT) (ad : Nat → Nat) (hI : Inj LM ad) (σ : St) {Q : St → Prop} (hV : V_M_begins σ Q) : Met l yX8_begins wsX8_begins (rmx 0 0) (Pq vwCl G LM ad σ [.ref (ad 0)]) (Qv vwCl G LM ad Q) 0 0 (Ax LM ad) := by
  unfold V_M_begins at hV
  refine x_metv (own := RX8) (by decide) rfl rfl (Nat.le_of_ble_eq_true rfl) hI ?_
  intro p e s m args below meth c R QQ X hR hret ls hl hw
  replace hl : lv_has ls 2 [(0, .ref (ad 0))] := hl
  obtain ⟨H, hH⟩ : ∃ z, z = s.heap := ⟨_, rfl⟩
  obtain ⟨locs, hlo⟩ : ∃ z : List Loc, z = [] := ⟨_, rfl⟩
  rw [← hH, ← hlo]
  replace hw : Wx vwCl G LM ad s H locs σ := by rw [hH, hlo]; exact hw
  clear hH hlo
  refine x_aload_n X dX8_begins_0 rfl (lv_at hl 0 rfl) ?_
  refine x_iconst X dX8_begins_1 ?_
  refine x_puti X hw lm0 cX8 15 (by decide) rfl n_M_begins_1 n_M_begins_0 tyX8 tyX8_ok nmX8 rfl rfl rfl dX8_begins_2 (fun H locs σ1 hs hw => ?_)
  replace hV := hV σ1 hs
  refine x_iconst X dX8_begins_5 ?_
  refine x_istore_n X [(1, iV 0), (0, .ref (ad 0))] dX8_begins_6 rfl hl (by decide) rfl (fun ls hl => ?_)
  refine WL1.use (Gl := fun x1_2 σ3 => ∀ (H : Heap) (locs : List Loc) (ls : Array Slot), Wx vwCl G LM ad s H locs σ3 → lv_has ls 2 [(1, iV x1_2), (0, .ref (ad 0))] → W p l e R s m args below meth c H locs 0 0 QQ (F0 m 7 ls [])) ?_ hV H locs ls hw hl
  clear hV hw hl H locs ls
  intro bk4 x1_2 σ3 hbk4 hV H locs ls hw hl
  refine x_iload_n X dX8_begins_7 rfl (lv_at hl 0 rfl) ?_
  refine x_bipush X dX8_begins_8 (by decide) ?_
  refine x_icmp_ge X rfl k32_16 33 dX8_begins_10 (by decide) (fun hc => ?_) (fun hc => ?_)
  · replace hV := hV.1 hc
    exact hret σ3 H locs ls 33 hV hw dX8_begins_33
  · replace hV := hV.2 hc
    refine x_aload_n X dX8_begins_13 rfl (lv_at hl 1 rfl) ?_
    refine x_getr X hw lm0 cX8 13 (by decide) rfl n_M_begins_1 n_M_begins_2 dX8_begins_14 ?_
    refine x_iload_n X dX8_begins_17 rfl (lv_at hl 0 rfl) ?_
    refine x_iload_n X dX8_begins_18 rfl (lv_at hl 0 rfl) ?_
    obtain ⟨hi, hV⟩ := hV
    refine x_iast X hw lm11 rfl rfl hi dX8_begins_19 (fun H locs σ5 hs hw => ?_)
    replace hV := hV σ5 hs
    refine x_aload_n X dX8_begins_20 rfl (lv_at hl 1 rfl) ?_
    refine x_getr X hw lm0 cX8 14 (by decide) rfl n_M_begins_1 n_M_begins_3 dX8_begins_21 ?_
    refine x_iload_n X dX8_begins_24 rfl (lv_at hl 0 rfl) ?_
    refine x_iconst X dX8_begins_25 ?_
    obtain ⟨hi, hV⟩ := hV
    refine x_iast X hw lm12 rfl rfl hi dX8_begins_26 (fun H locs σ6 hs hw => ?_)
    replace hV := hV σ6 hs
    refine x_iinc X (k := 0) (x1_2 + 1) [(1, iV (x1_2 + 1)), (0, .ref (ad 0))] dX8_begins_27 hl rfl rfl (by decide) rfl (fun ls hl => ?_)
    refine x_goto X 7 dX8_begins_30 (by decide) ?_
    exact hbk4 (x1_2 + 1) σ6 hV H locs ls hw hl

theorem n_M_cross_0 : Cond.fieldLink RX8 41 "LacePillowModel" "at" "[I" ∈ wsX8_cross := by decide +kernel
theorem n_M_cross_1 : ∀ w ∈ wsX80, w ∈ wsX8_cross := by decide +kernel
theorem n_M_cross_2 : Cond.fieldLink RX8 47 "LacePillowModel" "place" "[I" ∈ wsX8_cross := by decide +kernel
theorem n_M_cross_3 : Cond.fieldLink RX8 186 "LacePillowModel" "crossings" "I" ∈ wsX8_cross := by decide +kernel
theorem n_M_cross_4 : Cond.fieldLink RX8 50 "LacePillowModel" "sign" "[I" ∈ wsX8_cross := by decide +kernel
theorem n_M_cross_5 : Cond.fieldLink RX8 53 "LacePillowModel" "over" "[I" ∈ wsX8_cross := by decide +kernel
theorem n_M_cross_6 : Cond.fieldLink RX8 56 "LacePillowModel" "under" "[I" ∈ wsX8_cross := by decide +kernel
theorem n_M_cross_7 : Cond.fieldLink RX8 59 "LacePillowModel" "by" "[I" ∈ wsX8_cross := by decide +kernel
theorem n_M_cross_8 : Cond.fieldLink RX8 44 "LacePillowModel" "used" "[I" ∈ wsX8_cross := by decide +kernel
set_option maxHeartbeats 4000000 in
set_option maxRecDepth 100000 in
theorem c_M_cross (l : Launch) (G : GT) (ad : Nat → Nat) (hI : Inj LM ad) (σ : St) (a1 : Int) (a2 : Int) (a3 : Int) {Q : St → Prop} (hV : V_M_cross σ a1 a2 a3 Q) : Met l yX8_cross wsX8_cross (rmx 0 0) (Pq vwCl G LM ad σ [.ref (ad 0), iV a1, iV a2, iV a3]) (Qv vwCl G LM ad Q) 0 0 (Ax LM ad) := by
  unfold V_M_cross at hV
  refine x_metv (own := RX8) (by decide) rfl rfl (Nat.le_of_ble_eq_true rfl) hI ?_
  intro p e s m args below meth c R QQ X hR hret ls hl hw
  replace hl : lv_has ls 6 [(0, .ref (ad 0)), (1, iV a1), (2, iV a2), (3, iV a3)] := hl
  obtain ⟨H, hH⟩ : ∃ z, z = s.heap := ⟨_, rfl⟩
  obtain ⟨locs, hlo⟩ : ∃ z : List Loc, z = [] := ⟨_, rfl⟩
  rw [← hH, ← hlo]
  replace hw : Wx vwCl G LM ad s H locs σ := by rw [hH, hlo]; exact hw
  clear hH hlo
  refine x_aload_n X dX8_cross_0 rfl (lv_at hl 0 rfl) ?_
  refine x_getr X hw lm0 cX8 13 (by decide) rfl n_M_cross_1 n_M_cross_0 dX8_cross_1 ?_
  refine x_iload_n X dX8_cross_4 rfl (lv_at hl 1 rfl) ?_
  obtain ⟨hi, hV⟩ := hV
  refine x_iald X hw lm11 rfl rfl hi dX8_cross_5 ?_
  refine x_bi (fun x4_1 ex4_1 => ?_)
  replace hV := hV x4_1 ex4_1
  clear ex4_1
  refine x_istore X [(4, iV x4_1), (0, .ref (ad 0)), (1, iV a1), (2, iV a2), (3, iV a3)] dX8_cross_6 hl (by decide) rfl (fun ls hl => ?_)
  refine x_aload_n X dX8_cross_8 rfl (lv_at hl 1 rfl) ?_
  refine x_getr X hw lm0 cX8 13 (by decide) rfl n_M_cross_1 n_M_cross_0 dX8_cross_9 ?_
  refine x_iload_n X dX8_cross_12 rfl (lv_at hl 2 rfl) ?_
  refine x_iconst X dX8_cross_13 ?_
  refine x_iadd X dX8_cross_14 ?_
  obtain ⟨hi, hV⟩ := hV
  refine x_iald X hw lm11 rfl rfl hi dX8_cross_15 ?_
  refine x_bi (fun x5_2 ex5_2 => ?_)
  replace hV := hV x5_2 ex5_2
  clear ex5_2
  refine x_istore X [(5, iV x5_2), (4, iV x4_1), (0, .ref (ad 0)), (1, iV a1), (2, iV a2), (3, iV a3)] dX8_cross_16 hl (by decide) rfl (fun ls hl => ?_)
  refine x_aload_n X dX8_cross_18 rfl (lv_at hl 2 rfl) ?_
  refine x_getr X hw lm0 cX8 13 (by decide) rfl n_M_cross_1 n_M_cross_0 dX8_cross_19 ?_
  refine x_iload_n X dX8_cross_22 rfl (lv_at hl 3 rfl) ?_
  refine x_iload X dX8_cross_23 (lv_at hl 0 rfl) ?_
  obtain ⟨hi, hV⟩ := hV
  refine x_iast X hw lm11 rfl rfl hi dX8_cross_25 (fun H locs σ3 hs hw => ?_)
  replace hV := hV σ3 hs
  refine x_aload_n X dX8_cross_26 rfl (lv_at hl 2 rfl) ?_
  refine x_getr X hw lm0 cX8 13 (by decide) rfl n_M_cross_1 n_M_cross_0 dX8_cross_27 ?_
  refine x_iload_n X dX8_cross_30 rfl (lv_at hl 3 rfl) ?_
  refine x_iconst X dX8_cross_31 ?_
  refine x_iadd X dX8_cross_32 ?_
  refine x_iload X dX8_cross_33 (lv_at hl 1 rfl) ?_
  obtain ⟨hi, hV⟩ := hV
  refine x_iast X hw lm11 rfl rfl hi dX8_cross_35 (fun H locs σ4 hs hw => ?_)
  replace hV := hV σ4 hs
  refine x_aload_n X dX8_cross_36 rfl (lv_at hl 2 rfl) ?_
  refine x_getr X hw lm0 cX8 16 (by decide) rfl n_M_cross_1 n_M_cross_2 dX8_cross_37 ?_
  refine x_aload_n X dX8_cross_40 rfl (lv_at hl 2 rfl) ?_
  refine x_geti X hw lm0 cX8 15 (by decide) rfl n_M_cross_1 n_M_cross_3 dX8_cross_41 ?_
  refine x_iload_n X dX8_cross_44 rfl (lv_at hl 3 rfl) ?_
  obtain ⟨hi, hV⟩ := hV
  refine x_iast X hw lm13 rfl rfl hi dX8_cross_45 (fun H locs σ5 hs hw => ?_)
  replace hV := hV σ5 hs
  refine x_aload_n X dX8_cross_46 rfl (lv_at hl 2 rfl) ?_
  refine x_getr X hw lm0 cX8 17 (by decide) rfl n_M_cross_1 n_M_cross_4 dX8_cross_47 ?_
  refine x_aload_n X dX8_cross_50 rfl (lv_at hl 2 rfl) ?_
  refine x_geti X hw lm0 cX8 15 (by decide) rfl n_M_cross_1 n_M_cross_3 dX8_cross_51 ?_
  refine x_iload_n X dX8_cross_54 rfl (lv_at hl 4 rfl) ?_
  obtain ⟨hi, hV⟩ := hV
  refine x_iast X hw lm14 rfl rfl hi dX8_cross_55 (fun H locs σ6 hs hw => ?_)
  replace hV := hV σ6 hs
  refine x_aload_n X dX8_cross_56 rfl (lv_at hl 2 rfl) ?_
  refine x_getr X hw lm0 cX8 18 (by decide) rfl n_M_cross_1 n_M_cross_5 dX8_cross_57 ?_
  refine x_aload_n X dX8_cross_60 rfl (lv_at hl 2 rfl) ?_
  refine x_geti X hw lm0 cX8 15 (by decide) rfl n_M_cross_1 n_M_cross_3 dX8_cross_61 ?_
  refine x_iload_n X dX8_cross_64 rfl (lv_at hl 4 rfl) ?_
  refine x_iconst X dX8_cross_65 ?_
  have hJ76 : ∀ (y2_7 : Int) (σ8 : St) (H : Heap) (locs : List Loc) (ls : Array Slot), J_M_cross_76 a2 a3 Q x4_1 x5_2 σ6 y2_7 σ8 → Wx vwCl G LM ad s H locs σ8 → lv_has ls 6 [(5, iV x5_2), (4, iV x4_1), (0, .ref (ad 0)), (2, iV a2), (3, iV a3)] → W p l e R s m args below meth c H locs 0 0 QQ (F0 m 76 ls [iV y2_7, iV (σ6 0 15), .ref (ad 15)]) := by
    intro y2_7 σ8 H locs ls hV hw hl
    unfold J_M_cross_76 at hV
    obtain ⟨hi, hV⟩ := hV
    refine x_iast X hw lm15 rfl rfl hi dX8_cross_76 (fun H locs σ9 hs hw => ?_)
    replace hV := hV σ9 hs
    refine x_aload_n X dX8_cross_77 rfl (lv_at hl 2 rfl) ?_
    refine x_getr X hw lm0 cX8 19 (by decide) rfl n_M_cross_1 n_M_cross_6 dX8_cross_78 ?_
    refine x_aload_n X dX8_cross_81 rfl (lv_at hl 2 rfl) ?_
    refine x_geti X hw lm0 cX8 15 (by decide) rfl n_M_cross_1 n_M_cross_3 dX8_cross_82 ?_
    refine x_iload_n X dX8_cross_85 rfl (lv_at hl 3 rfl) ?_
    refine x_iconst X dX8_cross_86 ?_
    have hJ97 : ∀ (y2_10 : Int) (σ11 : St) (H : Heap) (locs : List Loc) (ls : Array Slot), J_M_cross_97 a3 Q σ9 y2_10 σ11 → Wx vwCl G LM ad s H locs σ11 → lv_has ls 6 [(0, .ref (ad 0)), (3, iV a3)] → W p l e R s m args below meth c H locs 0 0 QQ (F0 m 97 ls [iV y2_10, iV (σ9 0 15), .ref (ad 16)]) := by
      intro y2_10 σ11 H locs ls hV hw hl
      unfold J_M_cross_97 at hV
      obtain ⟨hi, hV⟩ := hV
      refine x_iast X hw lm16 rfl rfl hi dX8_cross_97 (fun H locs σ12 hs hw => ?_)
      replace hV := hV σ12 hs
      refine x_aload_n X dX8_cross_98 rfl (lv_at hl 0 rfl) ?_
      refine x_getr X hw lm0 cX8 20 (by decide) rfl n_M_cross_1 n_M_cross_7 dX8_cross_99 ?_
      refine x_aload_n X dX8_cross_102 rfl (lv_at hl 0 rfl) ?_
      refine x_geti X hw lm0 cX8 15 (by decide) rfl n_M_cross_1 n_M_cross_3 dX8_cross_103 ?_
      refine x_iload_n X dX8_cross_106 rfl (lv_at hl 1 rfl) ?_
      obtain ⟨hi, hV⟩ := hV
      refine x_iast X hw lm17 rfl rfl hi dX8_cross_107 (fun H locs σ13 hs hw => ?_)
      replace hV := hV σ13 hs
      refine x_aload_n X dX8_cross_108 rfl (lv_at hl 0 rfl) ?_
      refine x_getr X hw lm0 cX8 14 (by decide) rfl n_M_cross_1 n_M_cross_8 dX8_cross_109 ?_
      refine x_aload_n X dX8_cross_112 rfl (lv_at hl 0 rfl) ?_
      refine x_getr X hw lm0 cX8 18 (by decide) rfl n_M_cross_1 n_M_cross_5 dX8_cross_113 ?_
      refine x_aload_n X dX8_cross_116 rfl (lv_at hl 0 rfl) ?_
      refine x_geti X hw lm0 cX8 15 (by decide) rfl n_M_cross_1 n_M_cross_3 dX8_cross_117 ?_
      obtain ⟨hi, hV⟩ := hV
      refine x_iald X hw lm15 rfl rfl hi dX8_cross_120 ?_
      refine x_dup2 X dX8_cross_121 rfl rfl ?_
      obtain ⟨hi, hV⟩ := hV
      refine x_iald X hw lm12 rfl rfl hi dX8_cross_122 ?_
      refine x_iconst X dX8_cross_123 ?_
      refine x_iadd X dX8_cross_124 ?_
      obtain ⟨hi, hV⟩ := hV
      refine x_iast X hw lm12 rfl rfl hi dX8_cross_125 (fun H locs σ14 hs hw => ?_)
      replace hV := hV σ14 hs
      refine x_aload_n X dX8_cross_126 rfl (lv_at hl 0 rfl) ?_
      refine x_getr X hw lm0 cX8 14 (by decide) rfl n_M_cross_1 n_M_cross_8 dX8_cross_127 ?_
      refine x_aload_n X dX8_cross_130 rfl (lv_at hl 0 rfl) ?_
      refine x_getr X hw lm0 cX8 19 (by decide) rfl n_M_cross_1 n_M_cross_6 dX8_cross_131 ?_
      refine x_aload_n X dX8_cross_134 rfl (lv_at hl 0 rfl) ?_
      refine x_geti X hw lm0 cX8 15 (by decide) rfl n_M_cross_1 n_M_cross_3 dX8_cross_135 ?_
      obtain ⟨hi, hV⟩ := hV
      refine x_iald X hw lm16 rfl rfl hi dX8_cross_138 ?_
      refine x_dup2 X dX8_cross_139 rfl rfl ?_
      obtain ⟨hi, hV⟩ := hV
      refine x_iald X hw lm12 rfl rfl hi dX8_cross_140 ?_
      refine x_iconst X dX8_cross_141 ?_
      refine x_iadd X dX8_cross_142 ?_
      obtain ⟨hi, hV⟩ := hV
      refine x_iast X hw lm12 rfl rfl hi dX8_cross_143 (fun H locs σ15 hs hw => ?_)
      replace hV := hV σ15 hs
      refine x_aload_n X dX8_cross_144 rfl (lv_at hl 0 rfl) ?_
      refine x_dup X dX8_cross_145 rfl ?_
      refine x_geti X hw lm0 cX8 15 (by decide) rfl n_M_cross_1 n_M_cross_3 dX8_cross_146 ?_
      refine x_iconst X dX8_cross_149 ?_
      refine x_iadd X dX8_cross_150 ?_
      refine x_puti X hw lm0 cX8 15 (by decide) rfl n_M_cross_1 n_M_cross_3 tyX8 tyX8_ok nmX8 rfl rfl rfl dX8_cross_151 (fun H locs σ16 hs hw => ?_)
      replace hV := hV σ16 hs
      exact hret σ16 H locs ls 154 hV hw dX8_cross_154
    refine x_icmp_ne X rfl k32_1 95 dX8_cross_87 (by decide) (fun hc => ?_) (fun hc => ?_)
    · replace hV := hV.1 hc
      refine x_iload X dX8_cross_95 (lv_at hl 1 rfl) ?_
      exact hJ97 x4_1 σ9 H locs ls hV hw (lv_sub hl [2, 4] rfl)
    · replace hV := hV.2 hc
      refine x_iload X dX8_cross_90 (lv_at hl 0 rfl) ?_
      refine x_goto X 97 dX8_cross_92 (by decide) ?_
      exact hJ97 x5_2 σ9 H locs ls hV hw (lv_sub hl [2, 4] rfl)
  refine x_icmp_ne X rfl k32_1 74 dX8_cross_66 (by decide) (fun hc => ?_) (fun hc => ?_)
  · replace hV := hV.1 hc
    refine x_iload X dX8_cross_74 (lv_at hl 0 rfl) ?_
    exact hJ76 x5_2 σ6 H locs ls hV hw (lv_sub hl [0, 1, 2, 4, 5] rfl)
  · replace hV := hV.2 hc
    refine x_iload X dX8_cross_69 (lv_at hl 1 rfl) ?_
    refine x_goto X 76 dX8_cross_71 (by decide) ?_
    exact hJ76 x4_1 σ6 H locs ls hV hw (lv_sub hl [0, 1, 2, 4, 5] rfl)

theorem n_M_spells_0 : Cond.fieldLink RX8 9 "LacePillowModel" "now" "[I" ∈ wsX8_spells := by decide +kernel
theorem n_M_spells_1 : ∀ w ∈ wsX80, w ∈ wsX8_spells := by decide +kernel
set_option maxHeartbeats 4000000 in
set_option maxRecDepth 100000 in
theorem c_M_spells (l : Launch) (G : GT) (ad : Nat → Nat) (hI : Inj LM ad) (σ : St) (a1 : Int) (a2 : Int) (a3 : Int) {Q : St → Prop} (hV : V_M_spells σ a1 a2 a3 Q) : Met l yX8_spells wsX8_spells (rmx 1 25) (Pq vwCl G LM ad σ [.ref (ad 0), iV a1, iV a2, iV a3]) (Qv vwCl G LM ad Q) 0 0 (Ax LM ad) := by
  unfold V_M_spells at hV
  refine x_metv (own := RX8) (by decide) rfl rfl (Nat.le_of_ble_eq_true rfl) hI ?_
  intro p e s m args below meth c R QQ X hR hret ls hl hw
  replace hl : lv_has ls 6 [(0, .ref (ad 0)), (1, iV a1), (2, iV a2), (3, iV a3)] := hl
  obtain ⟨H, hH⟩ : ∃ z, z = s.heap := ⟨_, rfl⟩
  obtain ⟨locs, hlo⟩ : ∃ z : List Loc, z = [] := ⟨_, rfl⟩
  rw [← hH, ← hlo]
  replace hw : Wx vwCl G LM ad s H locs σ := by rw [hH, hlo]; exact hw
  clear hH hlo
  refine x_iconst X dX8_spells_0 ?_
  refine x_istore X [(4, iV 0), (0, .ref (ad 0)), (1, iV a1), (2, iV a2), (3, iV a3)] dX8_spells_1 hl (by decide) rfl (fun ls hl => ?_)
  refine WL1.use (Gl := fun x4_1 σ2 => ∀ (H : Heap) (locs : List Loc) (ls : Array Slot), Wx vwCl G LM ad s H locs σ2 → lv_has ls 6 [(4, iV x4_1), (0, .ref (ad 0)), (1, iV a1), (2, iV a2), (3, iV a3)] → W p l e R s m args below meth c H locs 0 0 QQ (F0 m 3 ls [])) ?_ hV H locs ls hw hl
  clear hV hw hl H locs ls
  intro bk3 x4_1 σ2 hbk3 hV H locs ls hw hl
  refine x_iload X dX8_spells_3 (lv_at hl 0 rfl) ?_
  refine x_aload_n X dX8_spells_5 rfl (lv_at hl 1 rfl) ?_
  refine x_getr X hw lm0 cX8 0 (by decide) rfl n_M_spells_1 n_M_spells_0 dX8_spells_6 ?_
  refine x_bipush X dX8_spells_9 (by decide) ?_
  refine x_bipush X dX8_spells_11 (by decide) ?_
  refine x_iload_n X dX8_spells_13 rfl (lv_at hl 2 rfl) ?_
  refine x_imul X dX8_spells_14 ?_
  refine x_iadd X dX8_spells_15 ?_
  obtain ⟨hi, hV⟩ := hV
  refine x_iald X hw lm1 rfl rfl hi dX8_spells_16 ?_
  refine x_icmp_ge X rfl rfl 116 dX8_spells_17 (by decide) (fun hc => ?_) (fun hc => ?_)
  · replace hV := hV.1 hc
    exact hret σ2 H locs ls 116 hV hw dX8_spells_116
  · replace hV := hV.2 hc
    refine x_aload_n X dX8_spells_20 rfl (lv_at hl 1 rfl) ?_
    refine x_iload_n X dX8_spells_21 rfl (lv_at hl 2 rfl) ?_
    refine x_iload X dX8_spells_22 (lv_at hl 0 rfl) ?_
    refine x_cvi X hw [iV a1, iV x4_1] [] (c_M_letterOf l G ad hI σ2 a1 x4_1 hV) (cwV 2 X.2.2.2.2 gX8_spells_X8_letterOf rfl rfl rfl hd_M_letterOf ⟨x_fr hR.1 rfl, x_fr hR.2 rfl⟩) lm0 cX8 rfl hl.1 rfl (Nat.le_of_ble_eq_true rfl) dX8_spells_24 ⟨Nat.zero_le _, Nat.zero_le _⟩ (fun r5 σ4 H locs hV hw => ?_)
    refine x_istore X [(5, iV r5), (4, iV x4_1), (0, .ref (ad 0)), (1, iV a1), (2, iV a2), (3, iV a3)] dX8_spells_27 hl (by decide) rfl (fun ls hl => ?_)
    refine x_iload X dX8_spells_29 (lv_at hl 0 rfl) ?_
    refine x_bipush X dX8_spells_31 (by decide) ?_
    have hJ43 : ∀ (σ6 : St) (H : Heap) (locs : List Loc) (ls : Array Slot), J_M_spells_43 a2 a3 x4_1 bk3 r5 σ6 → Wx vwCl G LM ad s H locs σ6 → lv_has ls 6 [(5, iV r5), (4, iV x4_1), (0, .ref (ad 0)), (1, iV a1), (2, iV a2), (3, iV a3)] → W p l e R s m args below meth c H locs 0 0 QQ (F0 m 43 ls []) := by
      intro σ6 H locs ls hV hw hl
      unfold J_M_spells_43 at hV
      refine x_aload_n X dX8_spells_43 rfl (lv_at hl 2 rfl) ?_
      refine x_iconst X dX8_spells_44 ?_
      refine x_iload_n X dX8_spells_45 rfl (lv_at hl 4 rfl) ?_
      refine x_imul X dX8_spells_46 ?_
      refine x_iconst X dX8_spells_47 ?_
      refine x_iadd X dX8_spells_48 ?_
      refine x_iload X dX8_spells_49 (lv_at hl 0 rfl) ?_
      refine x_bipush X dX8_spells_51 (by decide) ?_
      refine x_icmp_ne X rfl k32_99 60 dX8_spells_53 (by decide) (fun hc => ?_) (fun hc => ?_)
      · replace hV := hV.1 hc
        refine x_iconst X dX8_spells_60 ?_
        refine x_iload_n X dX8_spells_61 rfl (lv_at hl 5 rfl) ?_
        refine x_cvv X hw [iV ((2 * a2) + 1), iV 2, iV a3] [] (c_M_cross l G ad hI σ6 ((2 * a2) + 1) 2 a3 hV) (cwV 3 X.2.2.2.2 gX8_spells_X8_cross rfl rfl rfl hd_M_cross ⟨x_fr hR.1 rfl, x_fr hR.2 rfl⟩) lm0 cX8 rfl hl.1 rfl (Nat.le_of_ble_eq_true rfl) dX8_spells_62 ⟨Nat.zero_le _, Nat.zero_le _⟩ (fun σ7 H locs hV hw => ?_)
        refine x_goto X 110 dX8_spells_65 (by decide) ?_
        refine x_iinc X (k := 1) (x4_1 + 1) [(4, iV (x4_1 + 1)), (5, iV r5), (0, .ref (ad 0)), (1, iV a1), (2, iV a2), (3, iV a3)] dX8_spells_110 hl rfl rfl (by decide) rfl (fun ls hl => ?_)
        refine x_goto X 3 dX8_spells_113 (by decide) ?_
        exact hbk3 (x4_1 + 1) σ7 hV H locs ls hw (lv_sub hl [0, 2, 3, 4, 5] rfl)
      · replace hV := hV.2 hc
        refine x_iconst X dX8_spells_56 ?_
        refine x_goto X 61 dX8_spells_57 (by decide) ?_
        refine x_iload_n X dX8_spells_61 rfl (lv_at hl 5 rfl) ?_
        refine x_cvv X hw [iV ((2 * a2) + 1), iV 1, iV a3] [] (c_M_cross l G ad hI σ6 ((2 * a2) + 1) 1 a3 hV) (cwV 3 X.2.2.2.2 gX8_spells_X8_cross rfl rfl rfl hd_M_cross ⟨x_fr hR.1 rfl, x_fr hR.2 rfl⟩) lm0 cX8 rfl hl.1 rfl (Nat.le_of_ble_eq_true rfl) dX8_spells_62 ⟨Nat.zero_le _, Nat.zero_le _⟩ (fun σ8 H locs hV hw => ?_)
        refine x_goto X 110 dX8_spells_65 (by decide) ?_
        refine x_iinc X (k := 1) (x4_1 + 1) [(4, iV (x4_1 + 1)), (5, iV r5), (0, .ref (ad 0)), (1, iV a1), (2, iV a2), (3, iV a3)] dX8_spells_110 hl rfl rfl (by decide) rfl (fun ls hl => ?_)
        refine x_goto X 3 dX8_spells_113 (by decide) ?_
        exact hbk3 (x4_1 + 1) σ8 hV H locs ls hw (lv_sub hl [0, 2, 3, 4, 5] rfl)
    refine x_icmp_eq X rfl k32_99 43 dX8_spells_33 (by decide) (fun hc => ?_) (fun hc => ?_)
    · replace hV := hV.1 hc
      exact hJ43 σ4 H locs ls hV hw hl
    · replace hV := hV.2 hc
      refine x_iload X dX8_spells_36 (lv_at hl 0 rfl) ?_
      refine x_bipush X dX8_spells_38 (by decide) ?_
      refine x_icmp_ne X rfl k32_67 68 dX8_spells_40 (by decide) (fun hc => ?_) (fun hc => ?_)
      · replace hV := hV.1 hc
        refine x_aload_n X dX8_spells_68 rfl (lv_at hl 2 rfl) ?_
        refine x_iconst X dX8_spells_69 ?_
        refine x_iload_n X dX8_spells_70 rfl (lv_at hl 4 rfl) ?_
        refine x_imul X dX8_spells_71 ?_
        refine x_iload X dX8_spells_72 (lv_at hl 0 rfl) ?_
        refine x_bipush X dX8_spells_74 (by decide) ?_
        have hJ84 : ∀ (y2_9 : Int) (σ10 : St) (H : Heap) (locs : List Loc) (ls : Array Slot), J_M_spells_84 a2 a3 x4_1 bk3 r5 y2_9 σ10 → Wx vwCl G LM ad s H locs σ10 → lv_has ls 6 [(5, iV r5), (4, iV x4_1), (0, .ref (ad 0)), (1, iV a1), (2, iV a2), (3, iV a3)] → W p l e R s m args below meth c H locs 0 0 QQ (F0 m 84 ls [iV y2_9, iV (2 * a2), .ref (ad 0)]) := by
          intro y2_9 σ10 H locs ls hV hw hl
          unfold J_M_spells_84 at hV
          refine x_iload_n X dX8_spells_84 rfl (lv_at hl 5 rfl) ?_
          refine x_cvv X hw [iV (2 * a2), iV y2_9, iV a3] [] (c_M_cross l G ad hI σ10 (2 * a2) y2_9 a3 hV) (cwV 3 X.2.2.2.2 gX8_spells_X8_cross rfl rfl rfl hd_M_cross ⟨x_fr hR.1 rfl, x_fr hR.2 rfl⟩) lm0 cX8 rfl hl.1 rfl (Nat.le_of_ble_eq_true rfl) dX8_spells_85 ⟨Nat.zero_le _, Nat.zero_le _⟩ (fun σ11 H locs hV hw => ?_)
          refine x_aload_n X dX8_spells_88 rfl (lv_at hl 2 rfl) ?_
          refine x_iconst X dX8_spells_89 ?_
          refine x_iload_n X dX8_spells_90 rfl (lv_at hl 4 rfl) ?_
          refine x_imul X dX8_spells_91 ?_
          refine x_iconst X dX8_spells_92 ?_
          refine x_iadd X dX8_spells_93 ?_
          refine x_iload X dX8_spells_94 (lv_at hl 0 rfl) ?_
          refine x_bipush X dX8_spells_96 (by decide) ?_
          refine x_icmp_ne X rfl k32_116 105 dX8_spells_98 (by decide) (fun hc => ?_) (fun hc => ?_)
          · replace hV := hV.1 hc
            refine x_iconst X dX8_spells_105 ?_
            refine x_iload_n X dX8_spells_106 rfl (lv_at hl 5 rfl) ?_
            refine x_cvv X hw [iV ((2 * a2) + 2), iV 1, iV a3] [] (c_M_cross l G ad hI σ11 ((2 * a2) + 2) 1 a3 hV) (cwV 3 X.2.2.2.2 gX8_spells_X8_cross rfl rfl rfl hd_M_cross ⟨x_fr hR.1 rfl, x_fr hR.2 rfl⟩) lm0 cX8 rfl hl.1 rfl (Nat.le_of_ble_eq_true rfl) dX8_spells_107 ⟨Nat.zero_le _, Nat.zero_le _⟩ (fun σ12 H locs hV hw => ?_)
            refine x_iinc X (k := 1) (x4_1 + 1) [(4, iV (x4_1 + 1)), (5, iV r5), (0, .ref (ad 0)), (1, iV a1), (2, iV a2), (3, iV a3)] dX8_spells_110 hl rfl rfl (by decide) rfl (fun ls hl => ?_)
            refine x_goto X 3 dX8_spells_113 (by decide) ?_
            exact hbk3 (x4_1 + 1) σ12 hV H locs ls hw (lv_sub hl [0, 2, 3, 4, 5] rfl)
          · replace hV := hV.2 hc
            refine x_iconst X dX8_spells_101 ?_
            refine x_goto X 106 dX8_spells_102 (by decide) ?_
            refine x_iload_n X dX8_spells_106 rfl (lv_at hl 5 rfl) ?_
            refine x_cvv X hw [iV ((2 * a2) + 2), iV 2, iV a3] [] (c_M_cross l G ad hI σ11 ((2 * a2) + 2) 2 a3 hV) (cwV 3 X.2.2.2.2 gX8_spells_X8_cross rfl rfl rfl hd_M_cross ⟨x_fr hR.1 rfl, x_fr hR.2 rfl⟩) lm0 cX8 rfl hl.1 rfl (Nat.le_of_ble_eq_true rfl) dX8_spells_107 ⟨Nat.zero_le _, Nat.zero_le _⟩ (fun σ13 H locs hV hw => ?_)
            refine x_iinc X (k := 1) (x4_1 + 1) [(4, iV (x4_1 + 1)), (5, iV r5), (0, .ref (ad 0)), (1, iV a1), (2, iV a2), (3, iV a3)] dX8_spells_110 hl rfl rfl (by decide) rfl (fun ls hl => ?_)
            refine x_goto X 3 dX8_spells_113 (by decide) ?_
            exact hbk3 (x4_1 + 1) σ13 hV H locs ls hw (lv_sub hl [0, 2, 3, 4, 5] rfl)
        refine x_icmp_ne X rfl k32_116 83 dX8_spells_76 (by decide) (fun hc => ?_) (fun hc => ?_)
        · replace hV := hV.1 hc
          refine x_iconst X dX8_spells_83 ?_
          exact hJ84 1 σ4 H locs ls hV hw hl
        · replace hV := hV.2 hc
          refine x_iconst X dX8_spells_79 ?_
          refine x_goto X 84 dX8_spells_80 (by decide) ?_
          exact hJ84 2 σ4 H locs ls hV hw hl
      · replace hV := hV.2 hc
        exact hJ43 σ4 H locs ls hV hw hl

theorem n_M_works_0 : Cond.fieldLink RX8 25 "LacePillowModel" "gap" "[I" ∈ wsX8_works := by decide +kernel
theorem n_M_works_1 : ∀ w ∈ wsX80, w ∈ wsX8_works := by decide +kernel
theorem n_M_works_2 : Cond.fieldLink RX8 28 "LacePillowModel" "kind" "[I" ∈ wsX8_works := by decide +kernel
theorem n_M_works_3 : Cond.fieldLink RX8 44 "LacePillowModel" "used" "[I" ∈ wsX8_works := by decide +kernel
theorem n_M_works_4 : Cond.fieldLink RX8 41 "LacePillowModel" "at" "[I" ∈ wsX8_works := by decide +kernel
set_option maxHeartbeats 4000000 in
set_option maxRecDepth 100000 in
theorem c_M_works (l : Launch) (G : GT) (ad : Nat → Nat) (hI : Inj LM ad) (σ : St) (a1 : Int) (a2 : Int) {Q : St → Prop} (hV : V_M_works σ a1 a2 Q) : Met l yX8_works wsX8_works (rmx 2 50) (Pq vwCl G LM ad σ [.ref (ad 0), iV a1, iV a2]) (Qv vwCl G LM ad Q) 0 0 (Ax LM ad) := by
  unfold V_M_works at hV
  refine x_metv (own := RX8) (by decide) rfl rfl (Nat.le_of_ble_eq_true rfl) hI ?_
  intro p e s m args below meth c R QQ X hR hret ls hl hw
  replace hl : lv_has ls 4 [(0, .ref (ad 0)), (1, iV a1), (2, iV a2)] := hl
  obtain ⟨H, hH⟩ : ∃ z, z = s.heap := ⟨_, rfl⟩
  obtain ⟨locs, hlo⟩ : ∃ z : List Loc, z = [] := ⟨_, rfl⟩
  rw [← hH, ← hlo]
  replace hw : Wx vwCl G LM ad s H locs σ := by rw [hH, hlo]; exact hw
  clear hH hlo
  refine x_iconst X dX8_works_0 ?_
  refine x_aload_n X dX8_works_1 rfl (lv_at hl 0 rfl) ?_
  refine x_getr X hw lm0 cX8 7 (by decide) rfl n_M_works_1 n_M_works_0 dX8_works_2 ?_
  refine x_iload_n X dX8_works_5 rfl (lv_at hl 1 rfl) ?_
  obtain ⟨hi, hV⟩ := hV
  refine x_iald X hw lm6 rfl rfl hi dX8_works_6 ?_
  refine x_imul X dX8_works_7 ?_
  refine x_bi (fun x3_1 ex3_1 => ?_)
  replace hV := hV x3_1 ex3_1
  clear ex3_1
  refine x_istore_n X [(3, iV x3_1), (0, .ref (ad 0)), (1, iV a1), (2, iV a2)] dX8_works_8 rfl hl (by decide) rfl (fun ls hl => ?_)
  refine WL1.use (Gl := fun x3_2 σ3 => ∀ (H : Heap) (locs : List Loc) (ls : Array Slot), Wx vwCl G LM ad s H locs σ3 → lv_has ls 4 [(3, iV x3_2), (0, .ref (ad 0)), (1, iV a1), (2, iV a2)] → W p l e R s m args below meth c H locs 0 0 QQ (F0 m 9 ls [])) ?_ hV H locs ls hw hl
  clear hV hw hl H locs ls
  intro bk4 x3_2 σ3 hbk4 hV H locs ls hw hl
  refine x_iload_n X dX8_works_9 rfl (lv_at hl 0 rfl) ?_
  refine x_iconst X dX8_works_10 ?_
  refine x_aload_n X dX8_works_11 rfl (lv_at hl 1 rfl) ?_
  refine x_getr X hw lm0 cX8 7 (by decide) rfl n_M_works_1 n_M_works_0 dX8_works_12 ?_
  refine x_iload_n X dX8_works_15 rfl (lv_at hl 2 rfl) ?_
  obtain ⟨hi, hV⟩ := hV
  refine x_iald X hw lm6 rfl rfl hi dX8_works_16 ?_
  refine x_imul X dX8_works_17 ?_
  refine x_iconst X dX8_works_18 ?_
  refine x_iadd X dX8_works_19 ?_
  have hJ48 : ∀ (σ5 : St) (H : Heap) (locs : List Loc) (ls : Array Slot), J_M_works_48 a1 Q σ5 → Wx vwCl G LM ad s H locs σ5 → lv_has ls 4 [(0, .ref (ad 0)), (1, iV a1)] → W p l e R s m args below meth c H locs 0 0 QQ (F0 m 48 ls []) := by
    intro σ5 H locs ls hV hw hl
    unfold J_M_works_48 at hV
    refine x_aload_n X dX8_works_48 rfl (lv_at hl 0 rfl) ?_
    refine x_aload_n X dX8_works_49 rfl (lv_at hl 0 rfl) ?_
    refine x_getr X hw lm0 cX8 8 (by decide) rfl n_M_works_1 n_M_works_2 dX8_works_50 ?_
    refine x_iload_n X dX8_works_53 rfl (lv_at hl 1 rfl) ?_
    obtain ⟨hi, hV⟩ := hV
    refine x_iald X hw lm7 rfl rfl hi dX8_works_54 ?_
    refine x_aload_n X dX8_works_55 rfl (lv_at hl 0 rfl) ?_
    refine x_getr X hw lm0 cX8 7 (by decide) rfl n_M_works_1 n_M_works_0 dX8_works_56 ?_
    refine x_iload_n X dX8_works_59 rfl (lv_at hl 1 rfl) ?_
    obtain ⟨hi, hV⟩ := hV
    refine x_iald X hw lm6 rfl rfl hi dX8_works_60 ?_
    refine x_iload_n X dX8_works_61 rfl (lv_at hl 1 rfl) ?_
    refine x_cvv X hw [iV (σ5 7 (i32 a1)), iV (σ5 6 (i32 a1)), iV a1] [] (c_M_spells l G ad hI σ5 (σ5 7 (i32 a1)) (σ5 6 (i32 a1)) a1 hV) (cwV 3 X.2.2.2.2 gX8_works_X8_spells rfl rfl rfl hd_M_spells ⟨x_fr hR.1 rfl, x_fr hR.2 rfl⟩) lm0 cX8 rfl hl.1 rfl (Nat.le_of_ble_eq_true rfl) dX8_works_62 ⟨Nat.zero_le _, Nat.zero_le _⟩ (fun σ6 H locs hV hw => ?_)
    exact hret σ6 H locs ls 65 hV hw dX8_works_65
  refine x_icmp_ge X rfl rfl 48 dX8_works_20 (by decide) (fun hc => ?_) (fun hc => ?_)
  · replace hV := hV.1 hc
    exact hJ48 σ3 H locs ls hV hw (lv_sub hl [1, 2] rfl)
  · replace hV := hV.2 hc
    refine x_iload_n X dX8_works_23 rfl (lv_at hl 3 rfl) ?_
    refine x_if_eq X rfl 48 dX8_works_24 (by decide) (fun hc => ?_) (fun hc => ?_)
    · replace hV := hV.1 hc
      exact hJ48 σ3 H locs ls hV hw (lv_sub hl [1, 2] rfl)
    · replace hV := hV.2 hc
      refine x_aload_n X dX8_works_27 rfl (lv_at hl 1 rfl) ?_
      refine x_getr X hw lm0 cX8 14 (by decide) rfl n_M_works_1 n_M_works_3 dX8_works_28 ?_
      refine x_aload_n X dX8_works_31 rfl (lv_at hl 1 rfl) ?_
      refine x_getr X hw lm0 cX8 13 (by decide) rfl n_M_works_1 n_M_works_4 dX8_works_32 ?_
      refine x_iload_n X dX8_works_35 rfl (lv_at hl 0 rfl) ?_
      obtain ⟨hi, hV⟩ := hV
      refine x_iald X hw lm11 rfl rfl hi dX8_works_36 ?_
      refine x_dup2 X dX8_works_37 rfl rfl ?_
      obtain ⟨hi, hV⟩ := hV
      refine x_iald X hw lm12 rfl rfl hi dX8_works_38 ?_
      refine x_iconst X dX8_works_39 ?_
      refine x_iadd X dX8_works_40 ?_
      obtain ⟨hi, hV⟩ := hV
      refine x_iast X hw lm12 rfl rfl hi dX8_works_41 (fun H locs σ7 hs hw => ?_)
      replace hV := hV σ7 hs
      refine x_iinc X (k := 0) (x3_2 + 1) [(3, iV (x3_2 + 1)), (0, .ref (ad 0)), (1, iV a1), (2, iV a2)] dX8_works_42 hl rfl rfl (by decide) rfl (fun ls hl => ?_)
      refine x_goto X 9 dX8_works_45 (by decide) ?_
      exact hbk4 (x3_2 + 1) σ7 hV H locs ls hw hl
